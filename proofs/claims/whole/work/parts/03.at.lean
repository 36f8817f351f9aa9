/-! The layer between the kit's rows and the pure pictures of methods: memory of a fixed shape, and 'At'. -/
/-- ints and longs of cells: cell, slot -/
abbrev Mem : Type := (Nat → Nat → Int32) × (Nat → Nat → Int64)
/-- what a cell is: an object (its class, its fields: an int, a long, a reference to a cell), or an array (its class, its length: ints, longs, references to cells) -/
abbrev Ds : Type := (Nat × List (Option (Option Nat))) ⊕ (Nat × Nat × Option (Option (Nat → Nat)))
def fvl (ad : Nat → Nat) (M : Mem) (k j : Nat) : Option (Option Nat) → Value
  | none => .int (M.1 k j)
  | some none => .long (M.2 k j)
  | some (some r) => .ref (ad r)
def mkc (ac : Nat → ClassId) (ad : Nat → Nat) (M : Mem) (k : Nat) : Ds → va_E
  | .inl (ci, ks) => .inr (ci, ks.mapIdx (fun j q => fvl ad M k j q))
  | .inr (t, n, none) => .inl (ac t, n, .inl (M.1 k))
  | .inr (t, n, some none) => .inl (ac t, n, .inr (.inl (M.2 k)))
  | .inr (t, n, some (some g)) => .inl (ac t, n, .inr (.inr (.inr (.inr (fun j => some (ad (g j)))))))
def wl (tab : List Ds) (ac : Nat → ClassId) (ad : Nat → Nat) (rest : va_W) (M : Mem) : va_W := tab.mapIdx (fun k d => (ad k, mkc ac ad M k d)) ++ rest
def tysOf (ac : Nat → ClassId) : List (ClassId × FieldType) := [(ac 0, .int), (ac 1, .long), (ac 2, .object "CircleTints$Hold"), (ac 3, .object "CircleTints$Sheet")]
/-- what is known of the tables: classes, and the two places that name a nest mate's private method -/
def NW (U : State) : Prop := va_Nw (.methodLinkNest RX4 106 yX7_commonPart "CircleTints") U ∧ va_Nw (.methodLinkNest RX0 35 yX7_commonPart "CircleTints") U
def KN (D : va_G) (ac : Nat → ClassId) (U : State) : Prop := va_K D classes (tysOf ac) U ∧ NW U
theorem KN.warm {D : va_G} {ac : Nat → ClassId} {s U : State} (hW : s.WarmedH U.vm) (h : KN D ac s) : KN D ac U := ⟨va_K.moved hW.alike h.1, h.2.1.warmM hW, h.2.2.warmM hW⟩
/-- the nine words of a TEXT, as constants of the pool: their places, texts, lengths, bytes; their objects stand at ad 1000 .., their bytes at ad 2000 .. -/
def sIdx : List Nat := [35, 44, 54, 59, 97, 99, 101, 103, 105]
def sTx : List String := ["points", "line", "round", "list", "plain", "wide", "thin", "span", "even"]
def sLen : List Nat := [6, 4, 5, 4, 5, 4, 4, 4, 4]
def sByt : List (List Int32) := [[112, 111, 105, 110, 116, 115], [108, 105, 110, 101], [114, 111, 117, 110, 100], [108, 105, 115, 116], [112, 108, 97, 105, 110], [119, 105, 100, 101], [116, 104, 105, 110], [115, 112, 97, 110], [101, 118, 101, 110]]
/-- what is known of the constants: the nine words, COMPACT_STRINGS, and a static that is never looked at -/
def SX (ad : Nat → Nat) (A : Nat → Prop) (U : State) (H : Heap) : Prop := vk_S 9 sLen sByt (fun i => ad (1000 + i)) (fun i => ad (2000 + i)) A U H ∧ (∀ i, i < 9 → vk_R RX6 (sIdx.getD i 0) (sTx.getD i "") (ad (1000 + i)) U) ∧ va_Z "java/lang/String" "COMPACT_STRINGS" "Z" (.int 1) A U H ∧ va_Zq "jdk/internal/util/Preconditions" "SIOOBE_FORMATTER" "Ljava/util/function/BiFunction;" A U H
def KS (D : va_G) (ac : Nat → ClassId) (ad : Nat → Nat) (A : Nat → Prop) (U : State) : Prop := KN D ac U ∧ SX ad A U U.heap
theorem KS.warm {D : va_G} {ac : Nat → ClassId} {ad : Nat → Nat} {A : Nat → Prop} {s U : State} {H : Heap} {locs : List Loc} (hW : s.WarmedH U.vm) (hS : va_S A s.heap H locs) (hU : U.heap = H) (h : KS D ac ad A s) : KS D ac ad A U := by
  obtain ⟨h1, h2, h3, h4, h5⟩ := h
  subst hU
  exact ⟨KN.warm hW h1, vk_S.moved hW.alike (h2.kept hS.2.1), fun i hi => (h3 i hi).warm hW, va_Z.moved hW.alike (h4.kept hS.2.1), va_Zq.moved hW.alike (h5.kept hS.2.1)⟩
def Wd (D : va_G) (ac : Nat → ClassId) (ad : Nat → Nat) (A : Nat → Prop) (ws : va_W) (U : State) : Prop := va_P D classes ws U.heap ∧ KS D ac ad A U ∧ va_D A ws
def setI (M : Mem) (k j : Nat) (v : Int32) : Mem := (fun a b => if a = k then (if b = j then v else M.1 a b) else M.1 a b, M.2)
def setJ (M : Mem) (k j : Nat) (v : Int64) : Mem := (M.1, fun a b => if a = k then (if b = j then v else M.2 a b) else M.2 a b)
/-- a whole array's contents -/
def putI (M : Mem) (k : Nat) (f : Nat → Int32) : Mem := (fun a b => if a = k then f b else M.1 a b, M.2)
def putJ (M : Mem) (k : Nat) (f : Nat → Int64) : Mem := (M.1, fun a b => if a = k then f b else M.2 a b)
theorem wl_at {tab : List Ds} {ac : Nat → ClassId} {ad : Nat → Nat} {rest : va_W} {M : Mem} {k : Nat} {d : Ds} (h : tab[k]? = some d) : (wl tab ac ad rest M)[k]? = some (ad k, mkc ac ad M k d) := by
  have hk : k < tab.length := (List.getElem?_eq_some_iff.mp h).1
  unfold wl
  rw [List.getElem?_append_left (by simpa using hk), List.getElem?_mapIdx, h]
  rfl
theorem wl_set {tab : List Ds} {ac : Nat → ClassId} {ad : Nat → Nat} {rest : va_W} {M M' : Mem} {k : Nat} {d : Ds} {x : va_E} (h : tab[k]? = some d) (hx : x = mkc ac ad M' k d) (ho : ∀ j e, j ≠ k → tab[j]? = some e → mkc ac ad M' j e = mkc ac ad M j e) : (wl tab ac ad rest M).set k (ad k, x) = wl tab ac ad rest M' := by
  subst hx
  have hk : k < tab.length := (List.getElem?_eq_some_iff.mp h).1
  apply List.ext_getElem?
  intro j
  by_cases hj : j = k
  · subst hj
    rw [List.getElem?_set_self (by unfold wl; rw [List.length_append, List.length_mapIdx]; omega), wl_at h]
  · rw [List.getElem?_set_ne (Ne.symm hj)]
    by_cases hl : j < tab.length
    · rw [wl_at (List.getElem?_eq_getElem hl), wl_at (List.getElem?_eq_getElem hl), ho j _ hj (List.getElem?_eq_getElem hl)]
    · unfold wl
      rw [List.getElem?_append_right (by simpa using hl), List.getElem?_append_right (by simpa using hl)]
      simp
theorem mkc_other {ac : Nat → ClassId} {ad : Nat → Nat} {M M' : Mem} {j : Nat} (h1 : M'.1 j = M.1 j) (h2 : M'.2 j = M.2 j) (e : Ds) : mkc ac ad M' j e = mkc ac ad M j e := by
  rcases e with ⟨ci, ks⟩ | ⟨t, n, _ | _ | g⟩
  · show Sum.inr (ci, ks.mapIdx _) = Sum.inr (ci, ks.mapIdx _)
    have : (fun i q => fvl ad M' j i q) = (fun i q => fvl ad M j i q) := by
      funext i q
      rcases q with _ | _ | r
      · show Value.int _ = Value.int _; rw [h1]
      · show Value.long _ = Value.long _; rw [h2]
      · rfl
    rw [this]
  · show Sum.inl _ = Sum.inl _; rw [h1]
  · show Sum.inl _ = Sum.inl _; rw [h2]
  · rfl
theorem setI_o {M : Mem} {k j : Nat} {v : Int32} {a : Nat} (h : a ≠ k) : (setI M k j v).1 a = M.1 a := by funext b; simp [setI, h]
theorem setJ_o {M : Mem} {k j : Nat} {v : Int64} {a : Nat} (h : a ≠ k) : (setJ M k j v).2 a = M.2 a := by funext b; simp [setJ, h]
theorem putI_o {M : Mem} {k : Nat} {f : Nat → Int32} {a : Nat} (h : a ≠ k) : (putI M k f).1 a = M.1 a := by funext b; simp [putI, h]
theorem putJ_o {M : Mem} {k : Nat} {f : Nat → Int64} {a : Nat} (h : a ≠ k) : (putJ M k f).2 a = M.2 a := by funext b; simp [putJ, h]
theorem wl_setI {tab : List Ds} {ac : Nat → ClassId} {ad : Nat → Nat} {rest : va_W} {M : Mem} {k t n j : Nat} {v : Int32} (h : tab[k]? = some (.inr (t, n, none))) : (wl tab ac ad rest M).set k (ad k, .inl (ac t, n, .inl (upd (M.1 k) j v))) = wl tab ac ad rest (setI M k j v) := by
  refine wl_set h ?_ (fun a e ha _ => mkc_other (setI_o ha) rfl e)
  show Sum.inl (ac t, n, Sum.inl _) = Sum.inl (ac t, n, Sum.inl _)
  have : upd (M.1 k) j v = (setI M k j v).1 k := by funext b; simp [setI, upd]
  rw [this]
theorem wl_putI {tab : List Ds} {ac : Nat → ClassId} {ad : Nat → Nat} {rest : va_W} {M : Mem} {k t n : Nat} {f : Nat → Int32} (h : tab[k]? = some (.inr (t, n, none))) : (wl tab ac ad rest M).set k (ad k, .inl (ac t, n, .inl f)) = wl tab ac ad rest (putI M k f) := by
  refine wl_set h ?_ (fun a e ha _ => mkc_other (putI_o ha) rfl e)
  show Sum.inl (ac t, n, Sum.inl _) = Sum.inl (ac t, n, Sum.inl _)
  have : f = (putI M k f).1 k := by funext b; simp [putI]
  rw [← this]
theorem wl_setJ {tab : List Ds} {ac : Nat → ClassId} {ad : Nat → Nat} {rest : va_W} {M : Mem} {k t n j : Nat} {v : Int64} (h : tab[k]? = some (.inr (t, n, some none))) : (wl tab ac ad rest M).set k (ad k, .inl (ac t, n, .inr (.inl (vp_updL (M.2 k) j v)))) = wl tab ac ad rest (setJ M k j v) := by
  refine wl_set h ?_ (fun a e ha _ => mkc_other (M' := setJ M k j v) (M := M) rfl (setJ_o ha) e)
  show Sum.inl (ac t, n, Sum.inr (Sum.inl _)) = Sum.inl (ac t, n, Sum.inr (Sum.inl _))
  have : vp_updL (M.2 k) j v = (setJ M k j v).2 k := by funext b; simp [setJ, vp_updL]
  rw [this]
theorem wl_putJ {tab : List Ds} {ac : Nat → ClassId} {ad : Nat → Nat} {rest : va_W} {M : Mem} {k t n : Nat} {f : Nat → Int64} (h : tab[k]? = some (.inr (t, n, some none))) : (wl tab ac ad rest M).set k (ad k, .inl (ac t, n, .inr (.inl f))) = wl tab ac ad rest (putJ M k f) := by
  refine wl_set h ?_ (fun a e ha _ => mkc_other (M' := putJ M k f) (M := M) rfl (putJ_o ha) e)
  show Sum.inl (ac t, n, Sum.inr (Sum.inl _)) = Sum.inl (ac t, n, Sum.inr (Sum.inl _))
  have : f = (putJ M k f).2 k := by funext b; simp [putJ]
  rw [← this]
theorem wl_fldI {tab : List Ds} {ac : Nat → ClassId} {ad : Nat → Nat} {rest : va_W} {M : Mem} {k ci j : Nat} {v : Int32} {ks : List (Option (Option Nat))} (h : tab[k]? = some (.inl (ci, ks))) (hj : ks[j]? = some none) : (wl tab ac ad rest M).set k (ad k, .inr (ci, (ks.mapIdx (fun i q => fvl ad M k i q)).set j (.int v))) = wl tab ac ad rest (setI M k j v) := by
  refine wl_set h ?_ (fun a e ha _ => mkc_other (setI_o ha) rfl e)
  show Sum.inr (ci, _) = Sum.inr (ci, ks.mapIdx _)
  congr 2
  apply List.ext_getElem?
  intro i
  by_cases hi : i = j
  · subst hi
    have hl : i < ks.length := (List.getElem?_eq_some_iff.mp hj).1
    rw [List.getElem?_set_self (by simpa using hl), List.getElem?_mapIdx, hj]
    simp [fvl, setI]
  · rw [List.getElem?_set_ne (Ne.symm hi), List.getElem?_mapIdx, List.getElem?_mapIdx]
    congr 1
    funext q
    rcases q with _ | _ | r <;> simp [fvl, setI, hi]
theorem wl_fldJ {tab : List Ds} {ac : Nat → ClassId} {ad : Nat → Nat} {rest : va_W} {M : Mem} {k ci j : Nat} {v : Int64} {ks : List (Option (Option Nat))} (h : tab[k]? = some (.inl (ci, ks))) (hj : ks[j]? = some (some none)) : (wl tab ac ad rest M).set k (ad k, .inr (ci, (ks.mapIdx (fun i q => fvl ad M k i q)).set j (.long v))) = wl tab ac ad rest (setJ M k j v) := by
  refine wl_set h ?_ (fun a e ha _ => mkc_other (M' := setJ M k j v) (M := M) rfl (setJ_o ha) e)
  show Sum.inr (ci, _) = Sum.inr (ci, ks.mapIdx _)
  congr 2
  apply List.ext_getElem?
  intro i
  by_cases hi : i = j
  · subst hi
    have hl : i < ks.length := (List.getElem?_eq_some_iff.mp hj).1
    rw [List.getElem?_set_self (by simpa using hl), List.getElem?_mapIdx, hj]
    simp [fvl, setJ]
  · rw [List.getElem?_set_ne (Ne.symm hi), List.getElem?_mapIdx, List.getElem?_mapIdx]
    congr 1
    funext q
    rcases q with _ | _ | r <;> simp [fvl, setJ, hi]
/-! the words of pure pictures -/
def ck {α : Type} (c : Prop) [Decidable c] (x : Option α) : Option α := if c then x else none
def nm {α β : Type} (x : α) (k : α → β) : β := k x
def bd {α β : Type} (x : Option α) (k : α → Option β) : Option β := match x with
  | none => none
  | some a => k a
def jn {α β : Type} (k : α → β) (f : (α → β) → β) : β := f k
def lp {α β : Type} (b : (α → Option β) → α → Option β) : Nat → α → Option β
  | 0, _ => none
  | n + 1, a => b (lp b n) a
abbrev inb (i : Int32) (n : Nat) : Prop := ¬ (i < 0 ∨ n ≤ i.toNatClampNeg)
theorem ck_some {α : Type} {c : Prop} [Decidable c] {x : Option α} {o : α} (h : ck c x = some o) : c ∧ x = some o := by
  unfold ck at h
  split at h
  next hc => exact ⟨hc, h⟩
  next => cases h
theorem bd_some {α β : Type} {x : Option α} {k : α → Option β} {o : β} (h : bd x k = some o) : ∃ a, x = some a ∧ k a = some o := by
  cases x with
  | none => cases h
  | some a => exact ⟨a, rfl, h⟩
/-! where a walk stands -/
def At (p : Program) (l : Launch) (e : Env) (R : Room) (s : State) (m : MethodId) (args : Array Value) (below : List Frame) (meth : Method) (c : Code) (D : va_G) (ac : Nat → ClassId) (A : Nat → Prop) (nL : Nat) (tab : List Ds) (ad : Nat → Nat) (rest : va_W) (Q : State → Prop) (pc : Nat) (L : List (Nat × Value)) (S : List Value) (M : Mem) : Prop :=
  ∀ (H : Heap) (locs : List Loc) (ls : Array Slot), va_P D classes (wl tab ac ad rest M) H → va_D A (wl tab ac ad rest M) → va_S A s.heap H locs → lv_has ls nL L → W p l e R s m args below meth c H locs 0 0 Q (F0 m pc ls S)
abbrev Cx (p : Program) (s : State) (m : MethodId) (args : Array Value) (meth : Method) (c : Code) (cc : ByteArray) (nL : Nat) (own : String) (ret : Option FieldType) (D : va_G) (ac : Nat → ClassId) (ad : Nat → Nat) (A : Nat → Prop) : Prop :=
  p.tables.exec = Jvm.exec ∧ c.code = cc ∧ c.maxLocals = nL ∧ s.vm.findClass own = some m.cls ∧ (∀ w ∈ gt, w.before args s = true) ∧ KS D ac ad A s ∧ meth.sig.returnType = ret ∧ meth.locks = false
def Cxs (ci : Nat) : Prop := ∃ (C : String) (T : u_T) (N : Nat) (ty : Nat → FieldType), classes[ci]? = some (C, T, N) ∧ (∀ w ∈ u_ws C T N, w ∈ gt) ∧ (∀ k, k < N → parseFieldDescriptor (T k).2.2.1 = some (ty k)) ∧ (∀ a, a < N → ∀ b, b < N → a ≠ b → (T a).2.1 ≠ (T b).2.1)
/-- the field that a place of a class's pool names: field j of class ci, of a type; whether it is final -/
def Fl (own : String) (idx ci j : Nat) (ty : FieldType) (fin : Bool) : Prop := ∃ (C : String) (T : u_T) (N : Nat) (t0 : Nat → FieldType), classes[ci]? = some (C, T, N) ∧ (∀ w ∈ u_ws C T N, w ∈ gt) ∧ (∀ k, k < N → parseFieldDescriptor (T k).2.2.1 = some (t0 k)) ∧ (∀ a, a < N → ∀ b, b < N → a ≠ b → (T a).2.1 ≠ (T b).2.1) ∧ j < N ∧ Cond.fieldLink own idx (T j).1 (T j).2.1 (T j).2.2.1 ∈ gt ∧ parseFieldDescriptor (T j).2.2.1 = some ty ∧ (T j).2.2.2 = fin
def QI (D : va_G) (ac : Nat → ClassId) (A : Nat → Prop) (tab : List Ds) (ad : Nat → Nat) (rest : va_W) (below : List Frame) (args : Array Value) (s : State) (r : Int32) (M : Mem) : State → Prop := MQ below (va_Qi (fun r' (_ : Unit) => r' = r) (fun _ t => Wd D ac ad A (wl tab ac ad rest M) t) A) args s 0 0 A
def QJ (D : va_G) (ac : Nat → ClassId) (A : Nat → Prop) (tab : List Ds) (ad : Nat → Nat) (rest : va_W) (below : List Frame) (args : Array Value) (s : State) (r : Int64) (M : Mem) : State → Prop := MQ below (va_Ql (fun r' (_ : Unit) => r' = r) (fun _ t => Wd D ac ad A (wl tab ac ad rest M) t) A) args s 0 0 A
def QV (D : va_G) (ac : Nat → ClassId) (A : Nat → Prop) (tab : List Ds) (ad : Nat → Nat) (rest : va_W) (below : List Frame) (args : Array Value) (s : State) (M : Mem) : State → Prop := MQ below (va_Qv (fun (_ : Unit) => True) (fun _ t => Wd D ac ad A (wl tab ac ad rest M) t) A) args s 0 0 A
def rmD (d : Nat) : Room := { frames := d, cells := 0, slots := 0, locals := 64 * d }
def CtI (l : Launch) (D : va_G) (ac : Nat → ClassId) (A : Nat → Prop) (tab : List Ds) (ad : Nat → Nat) (rest : va_W) (y : MethodName) (cd : ByteArray) (mL : Nat) (ret : FieldType) (d : Nat) (av : List Value) (M : Mem) (r : Int32) (M' : Mem) : Prop :=
  Met l y (.code y cd mL (some ret) :: gt) (rmD d) (va_Pc av (Wd D ac ad A (wl tab ac ad rest M))) (va_Qi (fun r' (_ : Unit) => r' = r) (fun _ t => Wd D ac ad A (wl tab ac ad rest M') t) A) 0 0 A
def CtJ (l : Launch) (D : va_G) (ac : Nat → ClassId) (A : Nat → Prop) (tab : List Ds) (ad : Nat → Nat) (rest : va_W) (y : MethodName) (cd : ByteArray) (mL : Nat) (d : Nat) (av : List Value) (M : Mem) (r : Int64) (M' : Mem) : Prop :=
  Met l y (.code y cd mL (some .long) :: gt) (rmD d) (va_Pc av (Wd D ac ad A (wl tab ac ad rest M))) (va_Ql (fun r' (_ : Unit) => r' = r) (fun _ t => Wd D ac ad A (wl tab ac ad rest M') t) A) 0 0 A
def CtV (l : Launch) (D : va_G) (ac : Nat → ClassId) (A : Nat → Prop) (tab : List Ds) (ad : Nat → Nat) (rest : va_W) (y : MethodName) (cd : ByteArray) (mL : Nat) (d : Nat) (av : List Value) (M : Mem) (M' : Mem) : Prop :=
  Met l y (.code y cd mL none :: gt) (rmD d) (va_Pc av (Wd D ac ad A (wl tab ac ad rest M))) (va_Qv (fun (_ : Unit) => True) (fun _ t => Wd D ac ad A (wl tab ac ad rest M') t) A) 0 0 A
theorem Wd_blind {D : va_G} {ac : Nat → ClassId} {ad : Nat → Nat} {A : Nat → Prop} {ws : va_W} {av : List Value} : FrameBlind (va_Pc av (Wd D ac ad A ws)) := fun a U g mk q => by
  obtain ⟨q0, qP, ⟨⟨k1, k2, k3⟩, s1, s2, s3, s4⟩, qD⟩ := q
  exact ⟨q0, qP, ⟨⟨va_K.moved (u := U) (U := U.calling g mk a) (Vm.Alike.refl U.vm) k1, va_Nw.same rfl (u := U) (U := U.calling g mk a) rfl k2, va_Nw.same rfl (u := U) (U := U.calling g mk a) rfl k3⟩, vk_S.moved (u := U) (U := U.calling g mk a) (Vm.Alike.refl U.vm) s1, fun i hi => vk_R.same (u := U) (U := U.calling g mk a) rfl (s2 i hi), va_Z.moved (u := U) (U := U.calling g mk a) (Vm.Alike.refl U.vm) s3, va_Zq.moved (u := U) (U := U.calling g mk a) (Vm.Alike.refl U.vm) s4⟩, qD⟩
/-- as the kit's Met.ofW, for a method of a class whose name isn't plain (java/lang/Math), that no native row replaces -/
theorem met_ofW {l : Launch} {y : MethodName} {ws ws' : List Cond} {rm : Room} {Pc : Array Value → State → Prop} {Qc : Array Value → State → Outcome → State → Prop} {mc ms : Nat} {free : Addr → Prop} {cc : ByteArray} {maxL : Nat} {ret : Option FieldType}
    (hy : plainFor y = true) (hw : ws = Cond.code y cc maxL ret :: ws')
    (body : ∀ p e s m args below meth c s₁, BodyLoose p l y (headSpec ws rm) cc maxL ret e s m args below meth c s₁ → c.maxLocals = maxL → Pc args s →
      W p l e (headSpec ws rm).room s m args below meth c s.heap [] 0 0 (MQ below Qc args s mc ms free) (entryFrame m args maxL)) : Met l y ws rm Pc Qc mc ms free := by
  refine MetFree.of_bodySF (code := cc) (maxLocals := maxL) (ret := ret) hy ?_ ?_
  · intro args s m h hn
    obtain ⟨meth, c, h1, h2, h3, h4, h5, h6, -, -⟩ := Cond.code_spec hn (atoms_spec (ws := ws) h _ (by rw [hw]; exact List.mem_cons_self))
    exact ⟨meth, c, h1, h2, h3, h4, h5, h6⟩
  · intro p e s m args below meth c s₁ B hml hP _
    have hh0 : s₁.heap = s.heap := by rw [B.state]; rfl
    obtain ⟨t, a1, o, b1, b2, b3⟩ := body p e s m args below meth c s₁ B hml hP s₁ hh0 (Stand.of_body B)
    exact ⟨t, o, a1, b1, b2, ⟨b3.1, b3.2⟩⟩
section ENTRY
variable {l : Launch} {D : va_G} {ac : Nat → ClassId} {A : Nat → Prop} {tab : List Ds} {ad : Nat → Nat} {rest : va_W} {y : MethodName} {cd : ByteArray} {mL : Nat} {d : Nat} {av : List Value} {M M' : Mem}
theorem ct_ofI {ret : FieldType} {r : Int32} {own : String} (hy : plainFor y = true) (ho : y.cls = own) (hn : (lg_sl av).length ≤ mL)
    (h : ∀ p e s m args below meth c, Cx p s m args meth c cd mL own (some ret) D ac ad A → At p l e (rmD d) s m args below meth c D ac A mL tab ad rest (QI D ac A tab ad rest below args s r M') 0 (lv_args 0 av) [] M) : CtI l D ac A tab ad rest y cd mL ret d av M r M' := by
  refine met_ofW (cc := cd) (maxL := mL) (ret := some ret) hy rfl ?_
  intro p e s m args below meth c s₁ B hml hv
  obtain ⟨rfl, hP, hK, hD⟩ := hv
  have hts := atoms_spec (ws := .code y cd mL (some ret) :: gt) B.pre
  have hown : s.vm.findClass y.cls = some m.cls := findClass_of_methodNamed B.named
  rw [ho] at hown
  have hl := lv_entry av (n := mL) hn
  rw [lg_entry_eq]
  exact h p e s m _ below meth c ⟨B.exec, B.bytes, hml, hown, fun w hw => hts w (List.mem_cons_of_mem _ hw), hK, B.returns, B.notSynchronized⟩ _ _ _ hP hD va_S.rf hl
theorem ct_ofJ {r : Int64} {own : String} (hy : plainFor y = true) (ho : y.cls = own) (hn : (lg_sl av).length ≤ mL)
    (h : ∀ p e s m args below meth c, Cx p s m args meth c cd mL own (some .long) D ac ad A → At p l e (rmD d) s m args below meth c D ac A mL tab ad rest (QJ D ac A tab ad rest below args s r M') 0 (lv_args 0 av) [] M) : CtJ l D ac A tab ad rest y cd mL d av M r M' := by
  refine met_ofW (cc := cd) (maxL := mL) (ret := some .long) hy rfl ?_
  intro p e s m args below meth c s₁ B hml hv
  obtain ⟨rfl, hP, hK, hD⟩ := hv
  have hts := atoms_spec (ws := .code y cd mL (some .long) :: gt) B.pre
  have hown : s.vm.findClass y.cls = some m.cls := findClass_of_methodNamed B.named
  rw [ho] at hown
  have hl := lv_entry av (n := mL) hn
  rw [lg_entry_eq]
  exact h p e s m _ below meth c ⟨B.exec, B.bytes, hml, hown, fun w hw => hts w (List.mem_cons_of_mem _ hw), hK, B.returns, B.notSynchronized⟩ _ _ _ hP hD va_S.rf hl
theorem ct_ofV {own : String} (hy : plainFor y = true) (ho : y.cls = own) (hn : (lg_sl av).length ≤ mL)
    (h : ∀ p e s m args below meth c, Cx p s m args meth c cd mL own none D ac ad A → At p l e (rmD d) s m args below meth c D ac A mL tab ad rest (QV D ac A tab ad rest below args s M') 0 (lv_args 0 av) [] M) : CtV l D ac A tab ad rest y cd mL d av M M' := by
  refine met_ofW (cc := cd) (maxL := mL) (ret := none) hy rfl ?_
  intro p e s m args below meth c s₁ B hml hv
  obtain ⟨rfl, hP, hK, hD⟩ := hv
  have hts := atoms_spec (ws := .code y cd mL none :: gt) B.pre
  have hown : s.vm.findClass y.cls = some m.cls := findClass_of_methodNamed B.named
  rw [ho] at hown
  have hl := lv_entry av (n := mL) hn
  rw [lg_entry_eq]
  exact h p e s m _ below meth c ⟨B.exec, B.bytes, hml, hown, fun w hw => hts w (List.mem_cons_of_mem _ hw), hK, B.returns, B.notSynchronized⟩ _ _ _ hP hD va_S.rf hl
end ENTRY
