/-! constructors: worlds that grow at their front -/
def Ac (p : Program) (l : Launch) (e : Env) (R : Room) (s : State) (m : MethodId) (args : Array Value) (below : List Frame) (meth : Method) (c : Code) (D : va_G) (A : Nat → Prop) (nL : Nat) (Q : State → Prop) (pc : Nat) (L : List (Nat × Value)) (S : List Value) (ws : va_W) (nc ns : Nat) : Prop :=
  ∀ (H : Heap) (locs : List Loc) (ls : Array Slot), va_P D classes ws H → va_D A ws → va_S A s.heap H locs → lv_has ls nL L → W p l e R s m args below meth c H locs nc ns Q (F0 m pc ls S)
abbrev Cc (p : Program) (s : State) (m : MethodId) (args : Array Value) (c : Code) (cc : ByteArray) (nL : Nat) (own : String) (D : va_G) (ac : Nat → ClassId) (A : Nat → Prop) : Prop :=
  p.tables.exec = Jvm.exec ∧ c.code = cc ∧ c.maxLocals = nL ∧ s.vm.findClass own = some m.cls ∧ (∀ w ∈ gt, w.before args s = true) ∧ va_K D classes (tysOf ac) s ∧ ∀ q, s.heap.size ≤ q → A q
theorem va_P_mem {D : va_G} {cl : List vw_C} {ws : va_W} {H : Heap} : va_P D cl ws H ↔ ∀ q ∈ ws, va_at D cl q H := ⟨fun h q hq => by obtain ⟨i, hi⟩ := List.getElem?_of_mem hq; exact h i q hi, fun h k q hk => h q (List.mem_of_getElem? hk)⟩
theorem P_front {D : va_G} {cl : List vw_C} {ws : va_W} {x : Nat × va_E} {H : Heap} (h : va_P D cl (ws ++ [x]) H) : va_P D cl (x :: ws) H := va_P_mem.mpr (fun q hq => va_P_mem.mp h q (by rcases List.mem_cons.mp hq with h | h <;> simp [h]))
theorem D_front {A : Nat → Prop} {ws : va_W} {x : Nat × va_E} (h : va_D A (ws ++ [x])) : va_D A (x :: ws) := by
  have hx : (ws ++ [x])[ws.length]? = some x := by simp
  have hk : ∀ (i : Nat) (q : Nat × va_E), ws[i]? = some q → (ws ++ [x])[i]? = some q ∧ i < ws.length := fun i q hq => by
    have hl : i < ws.length := (List.getElem?_eq_some_iff.mp hq).1
    exact ⟨by rw [List.getElem?_append_left hl]; exact hq, hl⟩
  refine ⟨fun i j p q hi hj hpq => ?_, fun k q hk2 => ?_⟩
  · cases i with
    | zero =>
      cases j with
      | zero => rfl
      | succ j =>
        cases hi
        obtain ⟨h1, h2⟩ := hk j q hj
        have := h.1 ws.length j _ q hx h1 hpq
        omega
    | succ i =>
      cases j with
      | zero =>
        cases hj
        obtain ⟨h1, h2⟩ := hk i p hi
        have := h.1 i ws.length p _ h1 hx hpq
        omega
      | succ j => rw [h.1 i j p q (hk i p hi).1 (hk j q hj).1 hpq]
  · cases k with
    | zero => cases hk2; exact h.2 _ _ hx
    | succ k => exact h.2 k q (hk k q hk2).1
def NX (U : State) : Prop := va_Nw (.methodLinkNest RX7 45 yX3_init "CircleTints") U ∧ va_Nw (.methodLinkNest RX7 56 yX0_init "CircleTints") U ∧ va_AO "CircleTints$Hold" U ∧ va_AO "CircleTints$Sheet" U
theorem NX.warm {s U : State} (hW : s.WarmedH U.vm) (h : NX s) : NX U := ⟨h.1.warmM hW, h.2.1.warmM hW, h.2.2.1.moved hW.alike, h.2.2.2.moved hW.alike⟩
def rmC (d mc ms : Nat) : Room := { frames := d, cells := mc, slots := ms, locals := 64 * d }
def CtN (l : Launch) (D : va_G) (ac : Nat → ClassId) (A : Nat → Prop) (y : MethodName) (cd : ByteArray) (mL d mc ms h0 : Nat) (ws : va_W) (post : List Nat → va_W) : Prop :=
  Met l y (.code y cd mL none :: gt) (rmC d mc ms) (va_Pc [.ref h0] (fun U => va_P D classes ws U.heap ∧ va_K D classes (tysOf ac) U ∧ NX U ∧ va_D A ws ∧ ∀ q, U.heap.size ≤ q → A q)) (va_Qv (fun _ : List Nat => True) (fun u t => va_P D classes (post u) t.heap ∧ va_K D classes (tysOf ac) t ∧ va_D A (post u)) A) mc ms A
theorem wd_aI : Cond.arrayClass .int ∈ gt := gt_of (List.mem_of_getElem? (i := 78) (by decide +kernel)) (by decide +kernel)
theorem wd_aJ : Cond.arrayClass .long ∈ gt := gt_of (List.mem_of_getElem? (i := 79) (by decide +kernel)) (by decide +kernel)
theorem wd_oi : Cond.instanceMethod objectInit ∈ gt := gt_of (List.mem_of_getElem? (i := 25) (by decide +kernel)) (by decide +kernel)
theorem wd_oc : Cond.code objectInit ⟨#[0xb1]⟩ 1 none ∈ gt := gt_of (List.mem_of_getElem? (i := 26) rfl) rfl
theorem ii_L : Cond.initialized RL ∈ gt := gt_of (List.mem_of_getElem? (i := 0) (by decide +kernel)) (by decide +kernel)
theorem ii_X7 : Cond.initialized RX7 ∈ gt := gt_of (List.mem_of_getElem? (i := 1) (by decide +kernel)) (by decide +kernel)
theorem ii_X1 : Cond.initialized RX1 ∈ gt := gt_of (List.mem_of_getElem? (i := 2) (by decide +kernel)) (by decide +kernel)
theorem ii_X4 : Cond.initialized RX4 ∈ gt := gt_of (List.mem_of_getElem? (i := 3) (by decide +kernel)) (by decide +kernel)
theorem ii_X2 : Cond.initialized RX2 ∈ gt := gt_of (List.mem_of_getElem? (i := 4) (by decide +kernel)) (by decide +kernel)
theorem ii_X6 : Cond.initialized RX6 ∈ gt := gt_of (List.mem_of_getElem? (i := 5) (by decide +kernel)) (by decide +kernel)
theorem ii_X3 : Cond.initialized RX3 ∈ gt := gt_of (List.mem_of_getElem? (i := 6) (by decide +kernel)) (by decide +kernel)
theorem ii_X0 : Cond.initialized RX0 ∈ gt := gt_of (List.mem_of_getElem? (i := 7) (by decide +kernel)) (by decide +kernel)
theorem ii_X5 : Cond.initialized RX5 ∈ gt := gt_of (List.mem_of_getElem? (i := 8) (by decide +kernel)) (by decide +kernel)
theorem ii_X8 : Cond.initialized RX8 ∈ gt := gt_of (List.mem_of_getElem? (i := 9) (by decide +kernel)) (by decide +kernel)
theorem cl_L_7 : Cond.classLink RL 7 RX7 ∈ gt := gt_of (List.mem_of_getElem? (i := 19) (by decide +kernel)) (by decide +kernel)
theorem in_X7 : Cond.instantiable RX7 10 ∈ gt := gt_of (List.mem_of_getElem? (i := 20) (by decide +kernel)) (by decide +kernel)
theorem im_X7 : Cond.instanceMethod yX7_init ∈ gt := gt_of (List.mem_of_getElem? (i := 22) (by decide +kernel)) (by decide +kernel)
theorem mo_X7 : Cond.methodLink RX7 3 objectInit ∈ gt := gt_of (List.mem_of_getElem? (i := 24) (by decide +kernel)) (by decide +kernel)
theorem cl_X7_9 : Cond.classLink RX7 9 RX1 ∈ gt := gt_of (List.mem_of_getElem? (i := 27) (by decide +kernel)) (by decide +kernel)
theorem in_X1 : Cond.instantiable RX1 8 ∈ gt := gt_of (List.mem_of_getElem? (i := 28) (by decide +kernel)) (by decide +kernel)
theorem im_X1 : Cond.instanceMethod yX1_init ∈ gt := gt_of (List.mem_of_getElem? (i := 30) (by decide +kernel)) (by decide +kernel)
theorem mo_X1 : Cond.methodLink RX1 3 objectInit ∈ gt := gt_of (List.mem_of_getElem? (i := 32) (by decide +kernel)) (by decide +kernel)
theorem cl_X7_22 : Cond.classLink RX7 22 RX4 ∈ gt := gt_of (List.mem_of_getElem? (i := 80) (by decide +kernel)) (by decide +kernel)
theorem in_X4 : Cond.instantiable RX4 12 ∈ gt := gt_of (List.mem_of_getElem? (i := 81) (by decide +kernel)) (by decide +kernel)
theorem im_X4 : Cond.instanceMethod yX4_init ∈ gt := gt_of (List.mem_of_getElem? (i := 83) (by decide +kernel)) (by decide +kernel)
theorem mo_X4 : Cond.methodLink RX4 3 objectInit ∈ gt := gt_of (List.mem_of_getElem? (i := 85) (by decide +kernel)) (by decide +kernel)
theorem cl_X7_29 : Cond.classLink RX7 29 RX2 ∈ gt := gt_of (List.mem_of_getElem? (i := 128) (by decide +kernel)) (by decide +kernel)
theorem in_X2 : Cond.instantiable RX2 7 ∈ gt := gt_of (List.mem_of_getElem? (i := 129) (by decide +kernel)) (by decide +kernel)
theorem im_X2 : Cond.instanceMethod yX2_init ∈ gt := gt_of (List.mem_of_getElem? (i := 131) (by decide +kernel)) (by decide +kernel)
theorem mo_X2 : Cond.methodLink RX2 3 objectInit ∈ gt := gt_of (List.mem_of_getElem? (i := 133) (by decide +kernel)) (by decide +kernel)
theorem cl_X7_36 : Cond.classLink RX7 36 RX6 ∈ gt := gt_of (List.mem_of_getElem? (i := 157) (by decide +kernel)) (by decide +kernel)
theorem in_X6 : Cond.instantiable RX6 6 ∈ gt := gt_of (List.mem_of_getElem? (i := 158) (by decide +kernel)) (by decide +kernel)
theorem im_X6 : Cond.instanceMethod yX6_init ∈ gt := gt_of (List.mem_of_getElem? (i := 160) (by decide +kernel)) (by decide +kernel)
theorem mo_X6 : Cond.methodLink RX6 3 objectInit ∈ gt := gt_of (List.mem_of_getElem? (i := 162) (by decide +kernel)) (by decide +kernel)
theorem cl_X7_43 : Cond.classLink RX7 43 RX3 ∈ gt := gt_of (List.mem_of_getElem? (i := 183) (by decide +kernel)) (by decide +kernel)
theorem in_X3 : Cond.instantiable RX3 1 ∈ gt := gt_of (List.mem_of_getElem? (i := 184) (by decide +kernel)) (by decide +kernel)
theorem im_X3 : Cond.instanceMethod yX3_init ∈ gt := gt_of (List.mem_of_getElem? (i := 186) (by decide +kernel)) (by decide +kernel)
theorem mo_X3 : Cond.methodLink RX3 3 objectInit ∈ gt := gt_of (List.mem_of_getElem? (i := 188) (by decide +kernel)) (by decide +kernel)
theorem cl_X7_50 : Cond.classLink RX7 50 RX0 ∈ gt := gt_of (List.mem_of_getElem? (i := 194) (by decide +kernel)) (by decide +kernel)
theorem in_X0 : Cond.instantiable RX0 7 ∈ gt := gt_of (List.mem_of_getElem? (i := 196) (by decide +kernel)) (by decide +kernel)
theorem im_X0 : Cond.instanceMethod yX0_init ∈ gt := gt_of (List.mem_of_getElem? (i := 198) (by decide +kernel)) (by decide +kernel)
theorem mo_X0 : Cond.methodLink RX0 3 objectInit ∈ gt := gt_of (List.mem_of_getElem? (i := 200) (by decide +kernel)) (by decide +kernel)
theorem cl_X7_57 : Cond.classLink RX7 57 RX5 ∈ gt := gt_of (List.mem_of_getElem? (i := 232) (by decide +kernel)) (by decide +kernel)
theorem in_X5 : Cond.instantiable RX5 3 ∈ gt := gt_of (List.mem_of_getElem? (i := 234) (by decide +kernel)) (by decide +kernel)
theorem im_X5 : Cond.instanceMethod yX5_init ∈ gt := gt_of (List.mem_of_getElem? (i := 236) (by decide +kernel)) (by decide +kernel)
theorem mo_X5 : Cond.methodLink RX5 3 objectInit ∈ gt := gt_of (List.mem_of_getElem? (i := 238) (by decide +kernel)) (by decide +kernel)
theorem cl_L_10 : Cond.classLink RL 10 RX8 ∈ gt := gt_of (List.mem_of_getElem? (i := 904) (by decide +kernel)) (by decide +kernel)
theorem in_X8 : Cond.instantiable RX8 44 ∈ gt := gt_of (List.mem_of_getElem? (i := 905) (by decide +kernel)) (by decide +kernel)
theorem im_X8 : Cond.instanceMethod yX8_init ∈ gt := gt_of (List.mem_of_getElem? (i := 907) (by decide +kernel)) (by decide +kernel)
theorem mo_X8 : Cond.methodLink RX8 1 objectInit ∈ gt := gt_of (List.mem_of_getElem? (i := 909) (by decide +kernel)) (by decide +kernel)
section CONS
variable {p : Program} {l : Launch} {e : Env} {R : Room} {s : State} {m : MethodId} {args : Array Value} {below : List Frame} {meth : Method} {c : Code} {D : va_G} {ac : Nat → ClassId} {A : Nat → Prop} {nL : Nat} {Q : State → Prop} {L : List (Nat × Value)} {S : List Value} {cc : ByteArray} {own : String} {ws : va_W} {nc ns : Nat}
theorem c_iconst {pc : Nat} {n : Int} {v : Int32} (C : Cc p s m args c cc nL own D ac A) (hd : decode cc pc = .ok (.iconst n, 1)) (hv : Int32.ofInt n = v) (k : Ac p l e R s m args below meth c D A nL Q (pc + 1) L (.int v :: S) ws nc ns) : Ac p l e R s m args below meth c D A nL Q pc L (S) ws nc ns := fun H locs ls hP hD hS hl => lv_iconst C.1 C.2.1 hd hv (k H locs ls hP hD hS hl)
theorem c_bipush {pc : Nat} {n : Int} {v : Int32} (C : Cc p s m args c cc nL own D ac A) (hd : decode cc pc = .ok (.bipush n, 2)) (hv : (Int8.ofInt n).toInt32 = v) (k : Ac p l e R s m args below meth c D A nL Q (pc + 2) L (.int v :: S) ws nc ns) : Ac p l e R s m args below meth c D A nL Q pc L (S) ws nc ns := fun H locs ls hP hD hS hl => lv_bipush C.1 C.2.1 hd hv (k H locs ls hP hD hS hl)
theorem c_sipush {pc : Nat} {n : Int} {v : Int32} (C : Cc p s m args c cc nL own D ac A) (hd : decode cc pc = .ok (.sipush n, 3)) (hv : (Int16.ofInt n).toInt32 = v) (k : Ac p l e R s m args below meth c D A nL Q (pc + 3) L (.int v :: S) ws nc ns) : Ac p l e R s m args below meth c D A nL Q pc L (S) ws nc ns := fun H locs ls hP hD hS hl => lv_sipush C.1 C.2.1 hd hv (k H locs ls hP hD hS hl)
theorem c_iload_n {pc : Nat} {i : Fin 4} {x : Int32} (C : Cc p s m args c cc nL own D ac A) (hd : decode cc pc = .ok (.iload_n i, 1)) (q : Nat) (hq : L[q]? = some ((i : Nat), .int x)) (k : Ac p l e R s m args below meth c D A nL Q (pc + 1) L (.int x :: S) ws nc ns) : Ac p l e R s m args below meth c D A nL Q pc L (S) ws nc ns := fun H locs ls hP hD hS hl => lv_iload_n C.1 C.2.1 hd rfl (lv_at hl q hq) (k H locs ls hP hD hS hl)
theorem c_aload_n {pc : Nat} {i : Fin 4} {x : Nat} (C : Cc p s m args c cc nL own D ac A) (hd : decode cc pc = .ok (.aload_n i, 1)) (q : Nat) (hq : L[q]? = some ((i : Nat), .ref x)) (k : Ac p l e R s m args below meth c D A nL Q (pc + 1) L (.ref x :: S) ws nc ns) : Ac p l e R s m args below meth c D A nL Q pc L (S) ws nc ns := fun H locs ls hP hD hS hl => lv_aload_n C.1 C.2.1 hd rfl (lv_at hl q hq) (k H locs ls hP hD hS hl)
theorem c_dup {pc : Nat} {v : Value} (C : Cc p s m args c cc nL own D ac A) (hd : decode cc pc = .ok (.dup, 1)) (h : v.category = 1) (k : Ac p l e R s m args below meth c D A nL Q (pc + 1) L (v :: v :: S) ws nc ns) : Ac p l e R s m args below meth c D A nL Q pc L (v :: S) ws nc ns := fun H locs ls hP hD hS hl => lv_dup C.1 C.2.1 hd h (k H locs ls hP hD hS hl)
theorem c_iadd {pc : Nat} {x y : Int32} (C : Cc p s m args c cc nL own D ac A) (hd : decode cc pc = .ok (.iadd, 1))  (k : Ac p l e R s m args below meth c D A nL Q (pc + 1) L (.int (x + y) :: S) ws nc ns) : Ac p l e R s m args below meth c D A nL Q pc L (.int y :: .int x :: S) ws nc ns := fun H locs ls hP hD hS hl => lv_iadd C.1 C.2.1 hd  (k H locs ls hP hD hS hl)
theorem c_isub {pc : Nat} {x y : Int32} (C : Cc p s m args c cc nL own D ac A) (hd : decode cc pc = .ok (.isub, 1))  (k : Ac p l e R s m args below meth c D A nL Q (pc + 1) L (.int (x - y) :: S) ws nc ns) : Ac p l e R s m args below meth c D A nL Q pc L (.int y :: .int x :: S) ws nc ns := fun H locs ls hP hD hS hl => lv_isub C.1 C.2.1 hd  (k H locs ls hP hD hS hl)
theorem c_iand {pc : Nat} {x y : Int32} (C : Cc p s m args c cc nL own D ac A) (hd : decode cc pc = .ok (.iand, 1))  (k : Ac p l e R s m args below meth c D A nL Q (pc + 1) L (.int (x &&& y) :: S) ws nc ns) : Ac p l e R s m args below meth c D A nL Q pc L (.int y :: .int x :: S) ws nc ns := fun H locs ls hP hD hS hl => lv_iand C.1 C.2.1 hd  (k H locs ls hP hD hS hl)
theorem c_land {pc : Nat} {x y : Int64} (C : Cc p s m args c cc nL own D ac A) (hd : decode cc pc = .ok (.land, 1))  (k : Ac p l e R s m args below meth c D A nL Q (pc + 1) L (.long (x &&& y) :: S) ws nc ns) : Ac p l e R s m args below meth c D A nL Q pc L (.long y :: .long x :: S) ws nc ns := fun H locs ls hP hD hS hl => lv_land C.1 C.2.1 hd  (k H locs ls hP hD hS hl)
theorem c_lor {pc : Nat} {x y : Int64} (C : Cc p s m args c cc nL own D ac A) (hd : decode cc pc = .ok (.lor, 1))  (k : Ac p l e R s m args below meth c D A nL Q (pc + 1) L (.long (x ||| y) :: S) ws nc ns) : Ac p l e R s m args below meth c D A nL Q pc L (.long y :: .long x :: S) ws nc ns := fun H locs ls hP hD hS hl => lv_lor C.1 C.2.1 hd  (k H locs ls hP hD hS hl)
theorem c_lshl {pc : Nat} {x : Int64} {y : Int32} (C : Cc p s m args c cc nL own D ac A) (hd : decode cc pc = .ok (.lshl, 1))  (k : Ac p l e R s m args below meth c D A nL Q (pc + 1) L (.long (x <<< (y.toInt64 &&& 63)) :: S) ws nc ns) : Ac p l e R s m args below meth c D A nL Q pc L (.int y :: .long x :: S) ws nc ns := fun H locs ls hP hD hS hl => lv_lshl C.1 C.2.1 hd rfl (k H locs ls hP hD hS hl)
theorem c_i2l {pc : Nat} {x : Int32} (C : Cc p s m args c cc nL own D ac A) (hd : decode cc pc = .ok (.i2l, 1))  (k : Ac p l e R s m args below meth c D A nL Q (pc + 1) L (.long x.toInt64 :: S) ws nc ns) : Ac p l e R s m args below meth c D A nL Q pc L (.int x :: S) ws nc ns := fun H locs ls hP hD hS hl => lv_i2l C.1 C.2.1 hd rfl (k H locs ls hP hD hS hl)
theorem c_lcmp {pc : Nat} {x y : Int64} (C : Cc p s m args c cc nL own D ac A) (hd : decode cc pc = .ok (.lcmp, 1))  (k : Ac p l e R s m args below meth c D A nL Q (pc + 1) L (.int (lg_cmp x y) :: S) ws nc ns) : Ac p l e R s m args below meth c D A nL Q pc L (.long y :: .long x :: S) ws nc ns := fun H locs ls hP hD hS hl => W.lcmp C.1 C.2.1 hd  (k H locs ls hP hD hS hl)
theorem c_istore_n {pc : Nat} {i : Fin 4} {x : Int32} (L' : List (Nat × Value)) (C : Cc p s m args c cc nL own D ac A) (hd : decode cc pc = .ok (.istore_n i, 1)) (hn : (i : Nat) < nL) (hl' : ((i : Nat), Value.int x) :: L.filter (fun q => !(q.1 == (i : Nat)) && !(q.1 + 1 == (i : Nat) && q.2.category == 2)) = L') (k : Ac p l e R s m args below meth c D A nL Q (pc + 1) L' S ws nc ns) : Ac p l e R s m args below meth c D A nL Q pc L (.int x :: S) ws nc ns := fun H locs ls hP hD hS hl => lv_istore_n C.1 C.2.1 hd rfl hl hn hl' (fun ls' hl2 => k H locs ls' hP hD hS hl2)
theorem c_astore_n {pc : Nat} {i : Fin 4} {x : Nat} (L' : List (Nat × Value)) (C : Cc p s m args c cc nL own D ac A) (hd : decode cc pc = .ok (.astore_n i, 1)) (hn : (i : Nat) < nL) (hl' : ((i : Nat), Value.ref x) :: L.filter (fun q => !(q.1 == (i : Nat)) && !(q.1 + 1 == (i : Nat) && q.2.category == 2)) = L') (k : Ac p l e R s m args below meth c D A nL Q (pc + 1) L' S ws nc ns) : Ac p l e R s m args below meth c D A nL Q pc L (.ref x :: S) ws nc ns := fun H locs ls hP hD hS hl => lv_astore_n C.1 C.2.1 hd rfl hl hn hl' (fun ls' hl2 => k H locs ls' hP hD hS hl2)
theorem c_iinc {pc : Nat} {i : Nat} {n : Int} {x v : Int32} (L' : List (Nat × Value)) (C : Cc p s m args c cc nL own D ac A) (hd : decode cc pc = .ok (.iinc i n, 3)) (q : Nat) (hq : L[q]? = some (i, .int x)) (hv : x + Int32.ofInt n = v) (hn : i < nL) (hl' : (i, Value.int v) :: L.filter (fun q => !(q.1 == i) && !(q.1 + 1 == i && q.2.category == 2)) = L') (k : Ac p l e R s m args below meth c D A nL Q (pc + 3) L' S ws nc ns) : Ac p l e R s m args below meth c D A nL Q pc L S ws nc ns := fun H locs ls hP hD hS hl => lv_iinc C.1 C.2.1 hd hl hq hv hn hl' (fun ls' hl2 => k H locs ls' hP hD hS hl2)
theorem c_goto {pc : Nat} {off : Int} (tgt : Nat) (C : Cc p s m args c cc nL own D ac A) (hd : decode cc pc = .ok (.goto off, 3)) (ht : (pc : Int) + off = (tgt : Int)) (k : Ac p l e R s m args below meth c D A nL Q tgt L S ws nc ns) : Ac p l e R s m args below meth c D A nL Q pc L S ws nc ns := fun H locs ls hP hD hS hl => lv_goto C.1 C.2.1 hd ht (k H locs ls hP hD hS hl)
theorem c_icmp_ge {pc : Nat} {x y : Int32} {off : Int} (tgt : Nat) (C : Cc p s m args c cc nL own D ac A) (hd : decode cc pc = .ok (.if_icmp .ge off, 3)) (ht : (pc : Int) + off = (tgt : Int)) (kt : y ≤ x → Ac p l e R s m args below meth c D A nL Q tgt L S ws nc ns) (kf : ¬ y ≤ x → Ac p l e R s m args below meth c D A nL Q (pc + 3) L S ws nc ns) : Ac p l e R s m args below meth c D A nL Q pc L (.int y :: .int x :: S) ws nc ns := fun H locs ls hP hD hS hl => lv_icmp_ge C.1 C.2.1 hd ht (fun h => kt h H locs ls hP hD hS hl) (fun h => kf h H locs ls hP hD hS hl)
theorem c_icmp_gt {pc : Nat} {x y : Int32} {off : Int} (tgt : Nat) (C : Cc p s m args c cc nL own D ac A) (hd : decode cc pc = .ok (.if_icmp .gt off, 3)) (ht : (pc : Int) + off = (tgt : Int)) (kt : y < x → Ac p l e R s m args below meth c D A nL Q tgt L S ws nc ns) (kf : ¬ y < x → Ac p l e R s m args below meth c D A nL Q (pc + 3) L S ws nc ns) : Ac p l e R s m args below meth c D A nL Q pc L (.int y :: .int x :: S) ws nc ns := fun H locs ls hP hD hS hl => lv_icmp_gt C.1 C.2.1 hd ht (fun h => kt h H locs ls hP hD hS hl) (fun h => kf h H locs ls hP hD hS hl)
theorem c_icmp_eq {pc : Nat} {x y : Int32} {off : Int} (tgt : Nat) (C : Cc p s m args c cc nL own D ac A) (hd : decode cc pc = .ok (.if_icmp .eq off, 3)) (ht : (pc : Int) + off = (tgt : Int)) (kt : x = y → Ac p l e R s m args below meth c D A nL Q tgt L S ws nc ns) (kf : ¬ x = y → Ac p l e R s m args below meth c D A nL Q (pc + 3) L S ws nc ns) : Ac p l e R s m args below meth c D A nL Q pc L (.int y :: .int x :: S) ws nc ns := fun H locs ls hP hD hS hl => lv_icmp_eq C.1 C.2.1 hd ht (fun h => kt h H locs ls hP hD hS hl) (fun h => kf h H locs ls hP hD hS hl)
theorem c_if_eq {pc : Nat} {x : Int32} {off : Int} (tgt : Nat) (C : Cc p s m args c cc nL own D ac A) (hd : decode cc pc = .ok (.ifCond .eq off, 3)) (ht : (pc : Int) + off = (tgt : Int)) (kt : x = 0 → Ac p l e R s m args below meth c D A nL Q tgt L S ws nc ns) (kf : ¬ x = 0 → Ac p l e R s m args below meth c D A nL Q (pc + 3) L S ws nc ns) : Ac p l e R s m args below meth c D A nL Q pc L (.int x :: S) ws nc ns := fun H locs ls hP hD hS hl => lv_if_eq C.1 C.2.1 hd ht (fun h => kt h H locs ls hP hD hS hl) (fun h => kf h H locs ls hP hD hS hl)
theorem c_ldc2 {pc : Nat} {idx : Nat} {v : Int64} (C : Cc p s m args c cc nL own D ac A) (hd : decode cc pc = .ok (.ldc2_w idx, 3)) (hw : Cond.constantLong own idx v ∈ gt) (k : Ac p l e R s m args below meth c D A nL Q (pc + 3) L (.long v :: S) ws nc ns) : Ac p l e R s m args below meth c D A nL Q pc L S ws nc ns := fun H locs ls hP hD hS hl => lv_ldc2 C.1 C.2.1 C.2.2.2.1 (C.2.2.2.2.1 _ hw) hd (k H locs ls hP hD hS hl)
theorem c_sub {pc : Nat} {L' : List (Nat × Value)} (ks : List Nat) (hl' : lv_pick L ks = L') (k : Ac p l e R s m args below meth c D A nL Q pc L' S ws nc ns) : Ac p l e R s m args below meth c D A nL Q pc L S ws nc ns := fun H locs ls hP hD hS hl => k H locs ls hP hD hS (lv_sub hl ks hl')
theorem c_oinit {pc idx : Nat} {a : Nat} (C : Cc p s m args c cc nL own D ac A) (hd : decode cc pc = .ok (.invokespecial idx, 3)) (hlk : Cond.methodLink own idx objectInit ∈ gt) (hfr : 1 ≤ R.frames) (hlo : (S.map fun v => v.category).sum + 12 ≤ R.locals) (k : Ac p l e R s m args below meth c D A nL Q (pc + 3) L S ws nc ns) : Ac p l e R s m args below meth c D A nL Q pc L (.ref a :: S) ws nc ns := fun H locs ls hP hD hS hl => W.objInit C.1 C.2.1 C.2.2.2.1 (C.2.2.2.2.1 _ hlk) (C.2.2.2.2.1 _ wd_oi) (C.2.2.2.2.1 _ wd_oc) rfl (by rw [C.2.2.1]; exact hl.1) rfl hd hfr (by show 2 * 0 + _ + 12 ≤ _; omega) (k H locs ls hP hD hS hl)
theorem c_newaI {pc : Nat} {n : Int32} {n' : Nat} (C : Cc p s m args c cc nL own D ac A) (hd : decode cc pc = .ok (.newarray .int, 2)) (hn : ¬ n < 0) (hN : n.toNatClampNeg = n') (hby : n' * 4 ≤ 536870912) (hc : nc + 1 ≤ R.cells) (hs : ns + n' ≤ R.slots) (k : ∀ q : Nat, Ac p l e R s m args below meth c D A nL Q (pc + 2) L (.ref q :: S) ((q, .inl (ac 0, n', .inl (fun _ => 0))) :: ws) (nc + 1) (ns + n')) : Ac p l e R s m args below meth c D A nL Q pc L (.int n :: S) ws nc ns := fun H locs ls hP hD hS hl => by
  refine va_newa (atype := .int) (a0 := (n', .inl (fun _ => 0))) C.1 C.2.1 (C.2.2.2.2.1 _ wd_aI) rfl C.2.2.2.2.2.1 hP hD hS C.2.2.2.2.2.2 (fun cA => rfl) hn hN hby hc hs hd (fun q cA H1 hK1 hP1 hD1 hS1 => ?_)
  have h1 : s.vm.findClass ("[" ++ FieldType.int.toString) = some cA := (hK1.2 4 (cA, .int) rfl).2
  have h2 : s.vm.findClass ("[" ++ FieldType.int.toString) = some (ac 0) := (C.2.2.2.2.2.1.2 0 (ac 0, .int) rfl).2
  have h3 : cA = ac 0 := Option.some.inj (h1.symm.trans h2)
  subst h3
  exact k q H1 locs ls (P_front hP1) (D_front hD1) hS1 hl
theorem c_newaJ {pc : Nat} {n : Int32} {n' : Nat} (C : Cc p s m args c cc nL own D ac A) (hd : decode cc pc = .ok (.newarray .long, 2)) (hn : ¬ n < 0) (hN : n.toNatClampNeg = n') (hby : n' * 8 ≤ 536870912) (hc : nc + 1 ≤ R.cells) (hs : ns + n' ≤ R.slots) (k : ∀ q : Nat, Ac p l e R s m args below meth c D A nL Q (pc + 2) L (.ref q :: S) ((q, .inl (ac 1, n', .inr (.inl (fun _ => 0)))) :: ws) (nc + 1) (ns + n')) : Ac p l e R s m args below meth c D A nL Q pc L (.int n :: S) ws nc ns := fun H locs ls hP hD hS hl => by
  refine va_newa (atype := .long) (a0 := (n', .inr (.inl (fun _ => 0)))) C.1 C.2.1 (C.2.2.2.2.1 _ wd_aJ) rfl C.2.2.2.2.2.1 hP hD hS C.2.2.2.2.2.2 (fun cA => rfl) hn hN hby hc hs hd (fun q cA H1 hK1 hP1 hD1 hS1 => ?_)
  have h1 : s.vm.findClass ("[" ++ FieldType.long.toString) = some cA := (hK1.2 4 (cA, .long) rfl).2
  have h2 : s.vm.findClass ("[" ++ FieldType.long.toString) = some (ac 1) := (C.2.2.2.2.2.1.2 1 (ac 1, .long) rfl).2
  have h3 : cA = ac 1 := Option.some.inj (h1.symm.trans h2)
  subst h3
  exact k q H1 locs ls (P_front hP1) (D_front hD1) hS1 hl
theorem c_newq2 {pc idx : Nat} {n : Int32} {n' : Nat} (C : Cc p s m args c cc nL own D ac A) (hd : decode cc pc = .ok (.anewarray idx, 3)) (hcl : Cond.classLink own idx "CircleTints$Hold" ∈ gt) (hov : va_AO "CircleTints$Hold" s) (hn : ¬ n < 0) (hN : n.toNatClampNeg = n') (hby : n' * 4 ≤ 536870912) (hc : nc + 1 ≤ R.cells) (hs : ns + n' ≤ R.slots) (k : ∀ q : Nat, Ac p l e R s m args below meth c D A nL Q (pc + 3) L (.ref q :: S) ((q, .inl (ac 2, n', .inr (.inr (.inr (.inr (fun _ => none)))))) :: ws) (nc + 1) (ns + n')) : Ac p l e R s m args below meth c D A nL Q pc L (.int n :: S) ws nc ns := fun H locs ls hP hD hS hl => by
  refine va_newq C.1 C.2.1 C.2.2.2.1 (C.2.2.2.2.1 _ hcl) hov C.2.2.2.2.2.1 hP hD hS C.2.2.2.2.2.2 hn hN hby hc hs hd (fun q cA H1 hK1 hP1 hD1 hS1 => ?_)
  obtain ⟨-, -, -, -, -, h1⟩ := (hK1.2 4 (cA, .object "CircleTints$Hold") rfl).2
  obtain ⟨-, -, -, -, -, h2⟩ := (C.2.2.2.2.2.1.2 2 (ac 2, .object "CircleTints$Hold") rfl).2
  have h3 : cA = ac 2 := Option.some.inj (h1.symm.trans h2)
  subst h3
  exact k q H1 locs ls (P_front hP1) (D_front hD1) hS1 hl
theorem c_newq3 {pc idx : Nat} {n : Int32} {n' : Nat} (C : Cc p s m args c cc nL own D ac A) (hd : decode cc pc = .ok (.anewarray idx, 3)) (hcl : Cond.classLink own idx "CircleTints$Sheet" ∈ gt) (hov : va_AO "CircleTints$Sheet" s) (hn : ¬ n < 0) (hN : n.toNatClampNeg = n') (hby : n' * 4 ≤ 536870912) (hc : nc + 1 ≤ R.cells) (hs : ns + n' ≤ R.slots) (k : ∀ q : Nat, Ac p l e R s m args below meth c D A nL Q (pc + 3) L (.ref q :: S) ((q, .inl (ac 3, n', .inr (.inr (.inr (.inr (fun _ => none)))))) :: ws) (nc + 1) (ns + n')) : Ac p l e R s m args below meth c D A nL Q pc L (.int n :: S) ws nc ns := fun H locs ls hP hD hS hl => by
  refine va_newq C.1 C.2.1 C.2.2.2.1 (C.2.2.2.2.1 _ hcl) hov C.2.2.2.2.2.1 hP hD hS C.2.2.2.2.2.2 hn hN hby hc hs hd (fun q cA H1 hK1 hP1 hD1 hS1 => ?_)
  obtain ⟨-, -, -, -, -, h1⟩ := (hK1.2 4 (cA, .object "CircleTints$Sheet") rfl).2
  obtain ⟨-, -, -, -, -, h2⟩ := (C.2.2.2.2.2.1.2 3 (ac 3, .object "CircleTints$Sheet") rfl).2
  have h3 : cA = ac 3 := Option.some.inj (h1.symm.trans h2)
  subst h3
  exact k q H1 locs ls (P_front hP1) (D_front hD1) hS1 hl
theorem c_new {pc idx ci n : Nat} {Cn : String} {T : u_T} {ty : Nat → FieldType} (fs : List Value) (C : Cc p s m args c cc nL own D ac A) (hd : decode cc pc = .ok (.new idx, 3)) (hcl : Cond.classLink own idx Cn ∈ gt) (hin : Cond.instantiable Cn n ∈ gt) (hini : Cond.initialized Cn ∈ gt) (hci : classes[ci]? = some (Cn, T, n)) (hw : ∀ w ∈ u_ws Cn T n, w ∈ gt) (hty : ∀ k, k < n → parseFieldDescriptor (T k).2.2.1 = some (ty k)) (hfs : ∀ j, j < n → defaultValue (ty j) = vp_V fs j) (hc : nc + 1 ≤ R.cells) (hs : ns + n ≤ R.slots) (k : ∀ q : Nat, Ac p l e R s m args below meth c D A nL Q (pc + 3) L (.ref q :: S) ((q, .inr (ci, fs)) :: ws) (nc + 1) (ns + n)) : Ac p l e R s m args below meth c D A nL Q pc L S ws nc ns := fun H locs ls hP hD hS hl => va_new C.1 C.2.1 C.2.2.2.2.1 hw ty hty C.2.2.2.1 (C.2.2.2.2.1 _ hcl) (C.2.2.2.2.1 _ hin) (C.2.2.2.2.1 _ hini) C.2.2.2.2.2.1 hP hD hS C.2.2.2.2.2.2 hci hfs hc hs hd (fun q H1 hP1 hD1 hS1 => k q H1 locs ls (P_front hP1) (D_front hD1) hS1 hl)
theorem c_putF {pc idx ci j a q0 : Nat} {v : Value} {ty : FieldType} {fs : List Value} (ws' : va_W) (C : Cc p s m args c cc nL own D ac A) (hm : meth.name = "<init>") (hd : decode cc pc = .ok (.putfield idx, 3)) (hF : Fl own idx ci j ty true) (he : ws[q0]? = some (a, .inr (ci, fs))) (hj : j < fs.length) (hdc : ∀ (q : vw_C), classes[ci]? = some q → (q.2.1 j).1 = own) (hn : narrow ty v = v) (hft : fits ty v = true) (hw : ws.set q0 (a, .inr (ci, fs.set j v)) = ws') (k : Ac p l e R s m args below meth c D A nL Q (pc + 3) L S ws' nc ns) : Ac p l e R s m args below meth c D A nL Q pc L (v :: .ref a :: S) ws nc ns := fun H locs ls hP hD hS hl => by
  obtain ⟨Cn, T, N, t0, hc, hin, hty, hnm, hN, hlk, hpd, hfin⟩ := hF
  refine va_putF C.1 C.2.1 C.2.2.2.2.1 hin t0 hty hnm C.2.2.2.1 C.2.2.2.2.2.1 hP hD hS q0 he hc j hN (C.2.2.2.2.1 _ hlk) (fun _ h => h) hfin hm (hdc _ hc) hpd hn hft hj hd (fun H1 locs1 hP1 hD1 hS1 => ?_)
  rw [hw] at hP1 hD1
  exact k H1 locs1 ls hP1 hD1 hS1 hl
theorem c_putI {pc idx ci j a q0 : Nat} {v : Int32} {fs : List Value} (ws' : va_W) (C : Cc p s m args c cc nL own D ac A) (hd : decode cc pc = .ok (.putfield idx, 3)) (hF : Fl own idx ci j .int false) (he : ws[q0]? = some (a, .inr (ci, fs))) (hj : j < fs.length) (hw : ws.set q0 (a, .inr (ci, fs.set j (.int v))) = ws') (k : Ac p l e R s m args below meth c D A nL Q (pc + 3) L S ws' nc ns) : Ac p l e R s m args below meth c D A nL Q pc L (.int v :: .ref a :: S) ws nc ns := fun H locs ls hP hD hS hl => by
  obtain ⟨Cn, T, N, t0, hc, hin, hty, hnm, hN, hlk, hpd, hfin⟩ := hF
  refine va_put C.1 C.2.1 C.2.2.2.2.1 hin t0 hty hnm C.2.2.2.1 C.2.2.2.2.2.1 hP hD hS q0 he hc j hN (C.2.2.2.2.1 _ hlk) (fun _ h => h) hfin hpd rfl rfl hj hd (fun H1 locs1 hP1 hD1 hS1 => ?_)
  rw [hw] at hP1 hD1
  exact k H1 locs1 ls hP1 hD1 hS1 hl
theorem c_getR {pc idx ci j a q0 : Nat} {v : Value} {ty : FieldType} {fin : Bool} {fs : List Value} (C : Cc p s m args c cc nL own D ac A) (hd : decode cc pc = .ok (.getfield idx, 3)) (hF : Fl own idx ci j ty fin) (he : ws[q0]? = some (a, .inr (ci, fs))) (hv : fs[j]? = some v) (k : Ac p l e R s m args below meth c D A nL Q (pc + 3) L (v :: S) ws nc ns) : Ac p l e R s m args below meth c D A nL Q pc L (.ref a :: S) ws nc ns := fun H locs ls hP hD hS hl => by
  obtain ⟨Cn, T, N, t0, hc, hin, -, -, hN, hlk, -, -⟩ := hF
  exact va_get C.1 C.2.1 C.2.2.2.2.1 hin C.2.2.2.1 C.2.2.2.2.2.1 hP q0 he hc j hN (C.2.2.2.2.1 _ hlk) (fun _ h => h) hv hd (k H locs ls hP hD hS hl)
theorem c_iast {pc a q0 n : Nat} {i x : Int32} {f : Nat → Int32} (ws' : va_W) (C : Cc p s m args c cc nL own D ac A) (hd : decode cc pc = .ok (.iastore, 1)) (he : ws[q0]? = some (a, .inl (ac 0, n, .inl f))) (hi : inb i n) (hw : ws.set q0 (a, .inl (ac 0, n, .inl (upd f i.toNatClampNeg x))) = ws') (k : Ac p l e R s m args below meth c D A nL Q (pc + 1) L S ws' nc ns) : Ac p l e R s m args below meth c D A nL Q pc L (.int x :: .int i :: .ref a :: S) ws nc ns := fun H locs ls hP hD hS hl => va_iast C.1 C.2.1 C.2.2.2.2.2.1 hP hD hS q0 0 he rfl hi hd (fun H1 locs1 hP1 hD1 hS1 => by
  rw [hw] at hP1 hD1
  exact k H1 locs1 ls hP1 hD1 hS1 hl)
theorem c_last {pc a q0 n : Nat} {i : Int32} {x : Int64} {f : Nat → Int64} (ws' : va_W) (C : Cc p s m args c cc nL own D ac A) (hd : decode cc pc = .ok (.lastore, 1)) (he : ws[q0]? = some (a, .inl (ac 1, n, .inr (.inl f)))) (hi : inb i n) (hw : ws.set q0 (a, .inl (ac 1, n, .inr (.inl (vp_updL f i.toNatClampNeg x)))) = ws') (k : Ac p l e R s m args below meth c D A nL Q (pc + 1) L S ws' nc ns) : Ac p l e R s m args below meth c D A nL Q pc L (.long x :: .int i :: .ref a :: S) ws nc ns := fun H locs ls hP hD hS hl => va_last C.1 C.2.1 C.2.2.2.2.2.1 hP hD hS q0 1 he rfl hi hd (fun H1 locs1 hP1 hD1 hS1 => by
  rw [hw] at hP1 hD1
  exact k H1 locs1 ls hP1 hD1 hS1 hl)
theorem c_aast {pc a q0 qk n t ci v : Nat} {i : Int32} {f : Nat → Option Nat} {r : vw_C} {vs : List Value} (ws' : va_W) (C : Cc p s m args c cc nL own D ac A) (hd : decode cc pc = .ok (.aastore, 1)) (he : ws[q0]? = some (a, .inl (ac t, n, .inr (.inr (.inr (.inr f)))))) (ht : (tysOf ac)[t]? = some (ac t, .object r.1)) (hv : ws[qk]? = some (v, .inr (ci, vs))) (hc : classes[ci]? = some r) (hi : inb i n) (hw : ws.set q0 (a, .inl (ac t, n, .inr (.inr (.inr (.inr (va_up f i.toNatClampNeg (some v))))))) = ws') (k : Ac p l e R s m args below meth c D A nL Q (pc + 1) L S ws' nc ns) : Ac p l e R s m args below meth c D A nL Q pc L (.ref v :: .int i :: .ref a :: S) ws nc ns := fun H locs ls hP hD hS hl => va_astq C.1 C.2.1 C.2.2.2.2.2.1 hP hD hS q0 t qk ci he ht hv hc hi hd (fun H1 locs1 hP1 hD1 hS1 => by
  rw [hw] at hP1 hD1
  exact k H1 locs1 ls hP1 hD1 hS1 hl)
theorem c_init {pc idx mL d' mc ms h0 : Nat} {y : MethodName} {cd : ByteArray} {post : List Nat → va_W} (C : Cc p s m args c cc nL own D ac A) (hnx : NX s) (hd : decode cc pc = .ok (.invokespecial idx, 3)) (hlk : Cond.methodLink own idx y ∈ gt) (hm : Mc y cd mL none 0) (hi : Cond.instanceMethod y ∈ gt) (hy : y.name = "<init>") (hR : (rmC d' mc ms).frames + 1 ≤ R.frames ∧ 8 + (mL + 11) + (rmC d' mc ms).locals ≤ R.locals) (hW : (S.map fun v => v.category).sum ≤ 8) (hc : nc + mc ≤ R.cells ∧ ns + ms ≤ R.slots) (hM : CtN l D ac A y cd mL d' mc ms h0 ws post) (k : ∀ u : List Nat, Ac p l e R s m args below meth c D A nL Q (pc + 3) L S (post u) (nc + mc) (ns + ms)) : Ac p l e R s m args below meth c D A nL Q pc L (.ref h0 :: S) ws nc ns := fun H locs ls hP hD hS hl => by
  refine va_callv (va_runI (As := []) (rest := S) (n := 0) ⟨C.1, C.2.1, C.2.2.1, C.2.2.2.1, C.2.2.2.2.1⟩ hM ⟨callB_of 0 C.2.2.2.2.1 (k_goodc hm) rfl rfl rfl (C.2.2.2.2.1 _ hm.2.1) (C.2.2.2.2.1 _ hlk) hm.2.2 hR, hy, C.2.2.2.2.1 _ hi⟩ ⟨fun a U g mk q => by
    obtain ⟨q0, qP, qK, qN, qD, qA⟩ := q
    exact ⟨q0, qP, va_K.moved (u := U) (U := U.calling g mk a) (Vm.Alike.refl U.vm) qK, ⟨va_Nw.same rfl (u := U) (U := U.calling g mk a) rfl qN.1, va_Nw.same rfl (u := U) (U := U.calling g mk a) rfl qN.2.1, va_AO.moved (u := U) (U := U.calling g mk a) (Vm.Alike.refl U.vm) qN.2.2.1, va_AO.moved (u := U) (U := U.calling g mk a) (Vm.Alike.refl U.vm) qN.2.2.2⟩, qD, qA⟩, fun U hU hWm => ⟨rfl, by rw [hU]; exact hP, va_K.moved hWm.alike C.2.2.2.2.2.1, NX.warm hWm hnx, hD, fun q hq => C.2.2.2.2.2.2 q (Nat.le_trans hS.1 (by rw [← hU]; exact hq))⟩⟩ rfl rfl hl.1 rfl (lv_room hW) hd hc) hS (fun q _ h => h) (fun q h => h) (fun u t H1 locs1 ht' hvm hp hB hz hk hS1 => ?_)
  exact k u H1 locs1 ls (by rw [← ht']; exact hB.1) hB.2.2 hS1 hl
theorem c_initN {pc idx mL d' mc ms h0 : Nat} {y : MethodName} {cd : ByteArray} {post : List Nat → va_W} (C : Cc p s m args c cc nL own D ac A) (hnx : NX s) (hd : decode cc pc = .ok (.invokespecial idx, 3)) {host : String} (hlk : va_Nw (.methodLinkNest own idx y host) s) (hm : Mc y cd mL none 0) (hi : Cond.instanceMethod y ∈ gt) (hy : y.name = "<init>") (hR : (rmC d' mc ms).frames + 1 ≤ R.frames ∧ 8 + (mL + 11) + (rmC d' mc ms).locals ≤ R.locals) (hW : (S.map fun v => v.category).sum ≤ 8) (hc : nc + mc ≤ R.cells ∧ ns + ms ≤ R.slots) (hM : CtN l D ac A y cd mL d' mc ms h0 ws post) (k : ∀ u : List Nat, Ac p l e R s m args below meth c D A nL Q (pc + 3) L S (post u) (nc + mc) (ns + ms)) : Ac p l e R s m args below meth c D A nL Q pc L (.ref h0 :: S) ws nc ns := fun H locs ls hP hD hS hl => by
  refine va_callv (va_runIN (As := []) (rest := S) (n := 0) (host := host) ⟨C.1, C.2.1, C.2.2.1, C.2.2.2.1, C.2.2.2.2.1⟩ hM ⟨va_cnB 0 C.2.2.2.2.1 (k_goodc hm) rfl rfl rfl hlk (C.2.2.2.2.1 _ hm.2.1) hm.2.2 hR, hy, C.2.2.2.2.1 _ hi⟩ ⟨fun a U g mk q => by
    obtain ⟨q0, qP, qK, qN, qD, qA⟩ := q
    exact ⟨q0, qP, va_K.moved (u := U) (U := U.calling g mk a) (Vm.Alike.refl U.vm) qK, ⟨va_Nw.same rfl (u := U) (U := U.calling g mk a) rfl qN.1, va_Nw.same rfl (u := U) (U := U.calling g mk a) rfl qN.2.1, va_AO.moved (u := U) (U := U.calling g mk a) (Vm.Alike.refl U.vm) qN.2.2.1, va_AO.moved (u := U) (U := U.calling g mk a) (Vm.Alike.refl U.vm) qN.2.2.2⟩, qD, qA⟩, fun U hU hWm => ⟨rfl, by rw [hU]; exact hP, va_K.moved hWm.alike C.2.2.2.2.2.1, NX.warm hWm hnx, hD, fun q hq => C.2.2.2.2.2.2 q (Nat.le_trans hS.1 (by rw [← hU]; exact hq))⟩⟩ rfl rfl hl.1 rfl (lv_room hW) hd hc) hS (fun q _ h => h) (fun q h => h) (fun u t H1 locs1 ht' hvm hp hB hz hk hS1 => ?_)
  exact k u H1 locs1 ls (by rw [← ht']; exact hB.1) hB.2.2 hS1 hl
theorem c_vret {pc mc ms : Nat} {post : List Nat → va_W} (u : List Nat) (C : Cc p s m args c cc nL own D ac A) (hr : meth.sig.returnType = none) (hlk : meth.locks = false) (hd : decode cc pc = .ok (.return_, 1)) (hw : ws = post u) : Ac p l e R s m args below meth c D A nL (MQ below (va_Qv (fun _ : List Nat => True) (fun u t => va_P D classes (post u) t.heap ∧ va_K D classes (tysOf ac) t ∧ va_D A (post u)) A) args s mc ms A) pc L [] ws mc ms := fun H locs ls hP hD hS hl => by
  subst hw
  exact W.vret C.1 C.2.1 hr (fun t ht hW => ⟨⟨u, rfl, trivial, by rw [ht]; exact hP, va_K.moved hW.alike C.2.2.2.2.2.1, hD⟩, hS.F ht⟩) hS.2.2 hd hlk
end CONS
theorem ct_ofN {l : Launch} {D : va_G} {ac : Nat → ClassId} {A : Nat → Prop} {y : MethodName} {cd : ByteArray} {mL d mc ms h0 : Nat} {ws : va_W} {post : List Nat → va_W} {own : String} (hy : plainFor y = true) (ho : y.cls = own) (hyn : y.name = "<init>") (hn : 1 ≤ mL)
    (h : ∀ p e s m args below meth c, Cc p s m args c cd mL own D ac A → NX s → meth.name = "<init>" → meth.sig.returnType = none → meth.locks = false → Ac p l e (rmC d mc ms) s m args below meth c D A mL (MQ below (va_Qv (fun _ : List Nat => True) (fun u t => va_P D classes (post u) t.heap ∧ va_K D classes (tysOf ac) t ∧ va_D A (post u)) A) args s mc ms A) 0 [(0, .ref h0)] [] ws 0 0) : CtN l D ac A y cd mL d mc ms h0 ws post := by
  refine met_ofW (cc := cd) (maxL := mL) (ret := none) hy rfl ?_
  intro p e s m args below meth c s₁ B hml hv
  obtain ⟨rfl, hP, hK, hN, hD, hA⟩ := hv
  have hts := atoms_spec (ws := .code y cd mL none :: gt) B.pre
  have hown : s.vm.findClass y.cls = some m.cls := findClass_of_methodNamed B.named
  rw [ho] at hown
  have hl := lv_entry [.ref h0] (n := mL) hn
  rw [lg_entry_eq]
  exact h p e s m _ below meth c ⟨B.exec, B.bytes, hml, hown, fun w hw => hts w (List.mem_cons_of_mem _ hw), hK, hA⟩ hN ((name_of_methodNamed B.named B.method).1.trans hyn) B.returns B.notSynchronized _ _ _ hP hD va_S.rf hl
