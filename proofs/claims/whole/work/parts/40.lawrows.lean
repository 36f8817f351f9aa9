/-! THE CLAIM OUT OF ONE WALK OF THE LAW'S BODY. Your part is whole_start (and what it stands on); all else here is the same for every law, but numbers. -/
def R_law : String := "CircleTintsLaw"
def lw_P (b : Addr) (xs : List Int32) (args : Array Value) (s : State) : Prop := args = #[.ref b] ∧ s.IntsAt b xs ∧ xs.length ≤ 3072 ∧ (Jvm.Cond.and given_1 narrow_1).before args s = true
def lw_Q (_ : Array Value) (s : State) (o : Outcome) (t : State) : Prop := o = .returned (some (.int 1)) ∧ Framed s o t [] 600000 7302250
def lw_Z (below : List Frame) (a : Array Value) (s : State) : State → Prop := fun t => ∃ o, t.status = .running ∧ Ended t below o ∧ lw_Q a s o t
/-- the law's own end, with 1 on the stack, nothing written that was there before, its room as the claim has it -/
theorem lw_ret {p : Program} {l : Launch} {e : Env} {s : State} {m : MethodId} {below : List Frame} {meth : Method} {c : Code} {b : Nat} (hx : p.tables.exec = Jvm.exec) (hb : c.code = code) (hr : meth.sig.returnType = ret) (hlocks : meth.locks = false) {pc : Nat} {H : Heap} {ls : Array Slot} (hdg : decode code pc = .ok (.ireturn, 1)) : W p l e room_1 s m #[Value.ref b] below meth c H [] 600000 7302250 (lw_Z below #[Value.ref b] s) (F0 m pc ls [.int 1]) := by
  intro T hT X
  obtain ⟨fs, hret, hrun, hended, hW, hframe⟩ := X.leave (v := some (.int 1)) (hlocks := hlocks) (fun h => by rw [hr] at h; cases h)
  have hmeth' : T.vm.method? m = some meth := X.method'
  refine ⟨T.setFrames fs, ?_, .returned (some (.int 1)), hrun, hended, rfl, ⟨_, rfl⟩, hW, hframe⟩
  jvm_step X.here [X.here.top, hx, hb, hdg, hmeth', hr, ret, narrow_b1]
  (try refine ⟨rfl, ?_⟩); (try refine ⟨rfl, ?_⟩)
  first | (intro acts; rw [hret _ acts rfl rfl rfl]) | rw [hret _ _ rfl rfl rfl]
  exact Steps.refl _
/-- what holds at the law's entry: the machine, the code, the tables' words (any of lw_tbl by 'hts w (by decide +kernel)'), the script of L ints xs at the cell b, what the Statement gives of the start (any of its parts by flat_of_before) -/
def lw_At (p : Program) (s : State) (m : MethodId) (meth : Method) (c : Code) (b L : Nat) (xs : Nat → Int32) : Prop :=
  p.tables.exec = Jvm.exec ∧ c.code = code ∧ meth.sig.returnType = ret ∧ c.maxLocals = 4 ∧ s.vm.findClass R_law = some m.cls ∧ (∀ w ∈ lw_tbl, w.before #[Value.ref b] s = true) ∧ va_X b L xs s s.heap ∧ b < s.heap.size ∧ meth.locks = false ∧ (Jvm.Cond.and given_1 narrow_1).before #[Value.ref b] s = true
def xsX (h0 : Nat) (u : List Nat) : List Nat := [h0, (u.getD 0 0), (u.getD 1 0), (u.getD 2 0), (u.getD 3 0), (u.getD 4 0), (u.getD 5 0), (u.getD 6 0), (u.getD 7 0), (u.getD 8 0), (u.getD 9 0), (u.getD 10 0), (u.getD 11 0), (u.getD 12 0), (u.getD 13 0), (u.getD 14 0), (u.getD 15 0), (u.getD 16 0), (u.getD 17 0), (u.getD 18 0), (u.getD 19 0), (u.getD 20 0), (u.getD 21 0), (u.getD 22 0), (u.getD 23 0), (u.getD 24 0), (u.getD 25 0), (u.getD 26 0), (u.getD 27 0), (u.getD 28 0), (u.getD 29 0), (u.getD 30 0), (u.getD 31 0), (u.getD 32 0), (u.getD 33 0), (u.getD 34 0), (u.getD 35 0), (u.getD 36 0), (u.getD 37 0), (u.getD 38 0), (u.getD 39 0), (u.getD 40 0), (u.getD 41 0), (u.getD 42 0), (u.getD 43 0), (u.getD 44 0), (u.getD 45 0), (u.getD 46 0)]
def xsM (h0 : Nat) (u : List Nat) : List Nat := [h0, (u.getD 0 0), (u.getD 1 0), (u.getD 2 0), (u.getD 3 0), (u.getD 4 0), (u.getD 5 0), (u.getD 6 0), (u.getD 7 0), (u.getD 8 0), (u.getD 9 0), (u.getD 10 0), (u.getD 11 0), (u.getD 12 0), (u.getD 13 0), (u.getD 14 0), (u.getD 15 0), (u.getD 16 0), (u.getD 17 0), (u.getD 18 0), (u.getD 19 0), (u.getD 20 0), (u.getD 21 0), (u.getD 22 0), (u.getD 23 0), (u.getD 24 0)]
def adF (xs : List Nat) (adK adV : Nat → Nat) (k : Nat) : Nat := if k < 1000 then xs.getD k 0 else if k < 2000 then adK (k - 1000) else adV (k - 2000)
/-- the memory of new objects -/
def M0X : Mem := (fun k j => if j = 2 ∧ (k = 1 ∨ k = 7 ∨ k = 13) then 1 else if j = 0 ∧ (k = 40 ∨ k = 42 ∨ k = 44 ∨ k = 46) then -1 else 0, fun _ _ => 0)
def M0M : Mem := (fun k j => if k = 0 ∧ j = 2 then 1 else if k = 0 ∧ j = 8 then -1 else if k = 20 ∧ j < 4 then -1 else 0, fun k j => if k = 5 ∧ j < 6 then 1099511627775 else 0)
def wM (ac : Nat → ClassId) (adM : Nat → Nat) (Mm : Mem) : va_W := wl tabM ac adM [] Mm
def wX (ac : Nat → ClassId) (adX : Nat → Nat) (Mx : Mem) : va_W := wl tabX ac adX [] Mx
def wXM (ac : Nat → ClassId) (adX adM : Nat → Nat) (Mx Mm : Mem) : va_W := wl tabX ac adX (wM ac adM Mm) Mx
theorem wl_app (tab : List Ds) (ac : Nat → ClassId) (ad : Nat → Nat) (rest : va_W) (M : Mem) : wl tab ac ad rest M = wl tab ac ad [] M ++ rest := by simp [wl]
theorem P_swap {D : va_G} {cl : List vw_C} {a b : va_W} {H : Heap} (h : va_P D cl (a ++ b) H) : va_P D cl (b ++ a) H := va_P_mem.mpr (fun q hq => va_P_mem.mp h q (by rcases List.mem_append.mp hq with h | h <;> simp [h]))
theorem D_swap {A : Nat → Prop} {a b : va_W} (h : va_D A (a ++ b)) : va_D A (b ++ a) := by
  have hb : ∀ (i : Nat) (q : Nat × va_E), (b ++ a)[i]? = some q → (i < b.length ∧ (a ++ b)[a.length + i]? = some q) ∨ (b.length ≤ i ∧ i - b.length < a.length ∧ (a ++ b)[i - b.length]? = some q) := by
    intro i q hq
    by_cases hi : i < b.length
    · rw [List.getElem?_append_left hi] at hq
      refine Or.inl ⟨hi, ?_⟩
      rw [List.getElem?_append_right (by omega)]
      rw [show a.length + i - a.length = i by omega]
      exact hq
    · rw [List.getElem?_append_right (by omega)] at hq
      have hl : i - b.length < a.length := (List.getElem?_eq_some_iff.mp hq).1
      exact Or.inr ⟨by omega, hl, by rw [List.getElem?_append_left hl]; exact hq⟩
  refine ⟨fun i j p q hi hj hpq => ?_, fun k q hk => ?_⟩
  · rcases hb i p hi with ⟨h1, h2⟩ | ⟨h1, h1b, h2⟩ <;> rcases hb j q hj with ⟨h3, h4⟩ | ⟨h3, h3b, h4⟩
    · have := h.1 _ _ p q h2 h4 hpq; omega
    · have := h.1 _ _ p q h2 h4 hpq; omega
    · have := h.1 _ _ p q h2 h4 hpq; omega
    · have := h.1 _ _ p q h2 h4 hpq; omega
  · rcases hb k q hk with ⟨-, h2⟩ | ⟨-, -, h2⟩
    · exact h.2 _ q h2
    · exact h.2 _ q h2
section LROWS
variable {p : Program} {l : Launch} {e : Env} {s : State} {m : MethodId} {args : Array Value} {below : List Frame} {meth : Method} {c : Code} {D : va_G} {ac : Nat → ClassId} {A : Nat → Prop} {nL : Nat} {Q : State → Prop} {L : List (Nat × Value)} {S S0 : List Value} {cc : ByteArray} {own : String} {nc ns : Nat} {adX adM : Nat → Nat} {Mx Mm : Mem}
/-- the law's context: tables, the words, the script -/
abbrev LC (p : Program) (s : State) (m : MethodId) (args : Array Value) (c : Code) (D : va_G) (ac : Nat → ClassId) (A : Nat → Prop) (adX adM : Nat → Nat) (b n : Nat) (xs : Nat → Int32) : Prop := Cc p s m args c code 4 RL D ac A ∧ KS D ac adX A s ∧ KS D ac adM A s ∧ va_X b n xs s s.heap ∧ b < s.heap.size ∧ ¬ A b
theorem c_sld {pc b n : Nat} {xs : Nat → Int32} {i : Int32} {ws : va_W} {R : Room} (C : LC p s m args c D ac A adX adM b n xs) (hd : decode code pc = .ok (.iaload, 1)) (hi : vp_in i n) (k : Ac p l e R s m args below meth c D A 4 Q (pc + 1) L (.int (xs i.toNatClampNeg) :: S) ws nc ns) : Ac p l e R s m args below meth c D A 4 Q pc L (.int i :: .ref b :: S) ws nc ns := fun H locs ls hP hD hS hl => va_sld C.1.1 C.1.2.1 C.2.2.2.1 C.2.2.2.2.1 C.2.2.2.2.2 hS hi hd (k H locs ls hP hD hS hl)
theorem c_scrl {pc b n : Nat} {xs : Nat → Int32} {ws : va_W} {R : Room} (C : LC p s m args c D ac A adX adM b n xs) (hd : decode code pc = .ok (.arraylength, 1)) (k : Ac p l e R s m args below meth c D A 4 Q (pc + 1) L (.int (Int32.ofNat n) :: S) ws nc ns) : Ac p l e R s m args below meth c D A 4 Q pc L (.ref b :: S) ws nc ns := fun H locs ls hP hD hS hl => va_slen C.1.1 C.1.2.1 C.2.2.2.1 C.2.2.2.2.1 C.2.2.2.2.2 hS hd (k H locs ls hP hD hS hl)
theorem c_tabOut {pc : Nat} {dflt lo hi : Int} {offs : Array Int} {len : Nat} {x : Int32} {ws : va_W} {R : Room} (tgt : Nat) (C : Cc p s m args c cc nL own D ac A) (hd : decode cc pc = .ok (.tableswitch dflt lo hi offs, len)) (h : x.toInt < lo ∨ hi < x.toInt) (ht : (pc : Int) + dflt = (tgt : Int)) (k : Ac p l e R s m args below meth c D A nL Q tgt L S ws nc ns) : Ac p l e R s m args below meth c D A nL Q pc L (.int x :: S) ws nc ns := fun H locs ls hP hD hS hl => lv_tableOut C.1 C.2.1 hd h ht (k H locs ls hP hD hS hl)
theorem c_tabIn {pc : Nat} {dflt lo hi : Int} {offs : Array Int} {len : Nat} {x : Int32} {off : Int} {ws : va_W} {R : Room} (tgt : Nat) (C : Cc p s m args c cc nL own D ac A) (hd : decode cc pc = .ok (.tableswitch dflt lo hi offs, len)) (h1 : ¬ x.toInt < lo) (h2 : ¬ hi < x.toInt) (ho : offs[(x.toInt - lo).toNat]? = some off) (ht : (pc : Int) + off = (tgt : Int)) (k : Ac p l e R s m args below meth c D A nL Q tgt L S ws nc ns) : Ac p l e R s m args below meth c D A nL Q pc L (.int x :: S) ws nc ns := fun H locs ls hP hD hS hl => lv_tableIn C.1 C.2.1 hd h1 h2 ho ht (k H locs ls hP hD hS hl)
theorem wX_recv {H : Heap} (hK : va_K D classes (tysOf ac) s) {tab : List Ds} {ad : Nat → Nat} {rest : va_W} {M : Mem} {ci : Nat} {ks : List (Option (Option Nat))} {q : vw_C} (hP : va_P D classes (wl tab ac ad rest M) H) (ht : tab[0]? = some (.inl (ci, ks))) (hc : classes[ci]? = some q) : ∃ cell : Cell, H[ad 0]? = some cell ∧ cell.vm.isStatics = false ∧ s.vm.findClass q.1 = some cell.cls := va_recv hK hP hc (wl_at ht)
theorem l_room {d mL : Nat} (h : d ≤ 100) (hm : mL ≤ 45) : (rmD d).frames + 1 ≤ room_1.frames ∧ 8 + (mL + 11) + (rmD d).locals ≤ room_1.locals := by
  constructor
  · show d + 1 ≤ 2048
    omega
  · show 8 + (mL + 11) + 64 * d ≤ 84000
    omega
/-- a call of an object of the class, or of the reference -/
theorem l_run {tab : List Ds} {ad : Nat → Nat} {rest : va_W} {M : Mem} {pc idx n mL d ci N : Nat} {y : MethodName} {cd : ByteArray} {rt : Option FieldType} {As : List Value} {H : Heap} {locs : List Loc} {ls : Array Slot} {Qc : Array Value → State → Outcome → State → Prop} {T : u_T} {ks : List (Option (Option Nat))} (C : Cc p s m args c cc nL own D ac A) (hk : KS D ac ad A s) (hd : decode cc pc = .ok (.invokevirtual idx, 3)) (hlk : Cond.methodLink own idx y ∈ gt) (hm : Mc y cd mL rt n) (hv : Mv y) (ht : tab[0]? = some (.inl (ci, ks))) (hci : classes[ci]? = some (y.cls, T, N)) (hn : As.length = n) (hdd : d ≤ 100) (hmL : mL ≤ 45) (hst : S0 = As.reverse ++ .ref (ad 0) :: S) (hW : (S.map fun v => v.category).sum ≤ 8) (hcs : nc ≤ 600000 ∧ ns ≤ 7302250)
    (hM : Met l y (.code y cd mL rt :: gt) (rmD d) (va_Pc (.ref (ad 0) :: As) (Wd D ac ad A (wl tab ac ad rest M))) Qc 0 0 A) (hP : va_P D classes (wl tab ac ad rest M) H) (hD : va_D A (wl tab ac ad rest M)) (hS : va_S A s.heap H locs) (hl : lv_has ls nL L) :
    va_Run p l e room_1 s m args below meth c H locs nc ns 0 0 (F0 m pc ls S0) S (Qc (Value.ref (ad 0) :: As).toArray) A := by
  subst hst
  exact va_runV (As := As) (rest := S) (C := y.cls) (n := n) ⟨C.1, C.2.1, C.2.2.1, C.2.2.2.1, C.2.2.2.2.1⟩ hM ⟨callB_of n C.2.2.2.2.1 (k_goodc hm) rfl rfl rfl (C.2.2.2.2.1 _ hm.2.1) (C.2.2.2.2.1 _ hlk) hm.2.2 (l_room hdd hmL), C.2.2.2.2.1 _ hv.1, C.2.2.2.2.1 _ hv.2⟩ ⟨Wd_blind, va_recv C.2.2.2.2.2.1 hP hci (wl_at ht), fun U hU hWm => ⟨rfl, by rw [hU]; exact hP, KS.warm hWm hS hU hk, hD⟩⟩ rfl hn hl.1 rfl (lv_room hW) hd ⟨hcs.1, hcs.2⟩
theorem l_callX_I {pc idx n mL d b nb : Nat} {xs : Nat → Int32} {y : MethodName} {cd : ByteArray} {rty : FieldType} {r : Int32} {M' : Mem} {T : u_T} {N : Nat} (C : LC p s m args c D ac A adX adM b nb xs) (hd : decode code pc = .ok (.invokevirtual idx, 3)) (hlk : Cond.methodLink RL idx y ∈ gt) (hm : Mc y cd mL (some rty) n) (hv : Mv y) (hci : classes[7]? = some (y.cls, T, N)) (As : List Value) (hn : As.length = n) (hdd : d ≤ 100) (hmL : mL ≤ 45) (hst : S0 = As.reverse ++ .ref (adX 0) :: S) (hW : (S.map fun v => v.category).sum ≤ 8) (hcs : nc ≤ 600000 ∧ ns ≤ 7302250)
    (hM : CtI l D ac A tabX adX (wM ac adM Mm) y cd mL rty d (.ref (adX 0) :: As) Mx r M') (k : Ac p l e room_1 s m args below meth c D A 4 Q (pc + 3) L (.int r :: S) (wXM ac adX adM M' Mm) nc ns) : Ac p l e room_1 s m args below meth c D A 4 Q pc L S0 (wXM ac adX adM Mx Mm) nc ns := fun H locs ls hP hD hS hl => by
  refine va_calli (l_run C.1 C.2.1 hd hlk hm hv tx_0 hci hn hdd hmL hst hW hcs hM hP hD hS hl) hS (fun q _ h => h) (fun q h => h) (fun r1 u t H1 locs1 ht' hvm hp hB hz hk hS1 => ?_)
  rw [hp]
  exact k H1 locs1 ls (by rw [← ht']; exact hB.1) hB.2.2 hS1 hl
theorem l_callM_I {pc idx n mL d b nb : Nat} {xs : Nat → Int32} {y : MethodName} {cd : ByteArray} {rty : FieldType} {r : Int32} {M' : Mem} {T : u_T} {N : Nat} (C : LC p s m args c D ac A adX adM b nb xs) (hd : decode code pc = .ok (.invokevirtual idx, 3)) (hlk : Cond.methodLink RL idx y ∈ gt) (hm : Mc y cd mL (some rty) n) (hv : Mv y) (hci : classes[8]? = some (y.cls, T, N)) (As : List Value) (hn : As.length = n) (hdd : d ≤ 100) (hmL : mL ≤ 45) (hst : S0 = As.reverse ++ .ref (adM 0) :: S) (hW : (S.map fun v => v.category).sum ≤ 8) (hcs : nc ≤ 600000 ∧ ns ≤ 7302250)
    (hM : CtI l D ac A tabM adM (wX ac adX Mx) y cd mL rty d (.ref (adM 0) :: As) Mm r M') (k : Ac p l e room_1 s m args below meth c D A 4 Q (pc + 3) L (.int r :: S) (wXM ac adX adM Mx M') nc ns) : Ac p l e room_1 s m args below meth c D A 4 Q pc L S0 (wXM ac adX adM Mx Mm) nc ns := fun H locs ls hP hD hS hl => by
  refine va_calli (l_run C.1 C.2.2.1 hd hlk hm hv tm_0 hci hn hdd hmL hst hW hcs hM (show va_P D classes (wl tabM ac adM (wX ac adX Mx) Mm) H by rw [wl_app]; exact P_swap (by have h := hP; unfold wXM at h; rw [wl_app] at h; exact h)) (show va_D A (wl tabM ac adM (wX ac adX Mx) Mm) by rw [wl_app]; exact D_swap (by have h := hD; unfold wXM at h; rw [wl_app] at h; exact h)) hS hl) hS (fun q _ h => h) (fun q h => h) (fun r1 u t H1 locs1 ht' hvm hp hB hz hk hS1 => ?_)
  rw [hp]
  refine k H1 locs1 ls ?_ ?_ hS1 hl
  · have h := hB.1; rw [ht', wl_app] at h; unfold wXM; rw [wl_app]; exact P_swap h
  · have h := hB.2.2; rw [wl_app] at h; unfold wXM; rw [wl_app]; exact D_swap h
theorem l_callX_J {pc idx n mL d b nb : Nat} {xs : Nat → Int32} {y : MethodName} {cd : ByteArray} {r : Int64} {M' : Mem} {T : u_T} {N : Nat} (C : LC p s m args c D ac A adX adM b nb xs) (hd : decode code pc = .ok (.invokevirtual idx, 3)) (hlk : Cond.methodLink RL idx y ∈ gt) (hm : Mc y cd mL (some .long) n) (hv : Mv y) (hci : classes[7]? = some (y.cls, T, N)) (As : List Value) (hn : As.length = n) (hdd : d ≤ 100) (hmL : mL ≤ 45) (hst : S0 = As.reverse ++ .ref (adX 0) :: S) (hW : (S.map fun v => v.category).sum ≤ 8) (hcs : nc ≤ 600000 ∧ ns ≤ 7302250)
    (hM : CtJ l D ac A tabX adX (wM ac adM Mm) y cd mL d (.ref (adX 0) :: As) Mx r M') (k : Ac p l e room_1 s m args below meth c D A 4 Q (pc + 3) L (.long r :: S) (wXM ac adX adM M' Mm) nc ns) : Ac p l e room_1 s m args below meth c D A 4 Q pc L S0 (wXM ac adX adM Mx Mm) nc ns := fun H locs ls hP hD hS hl => by
  refine va_calll (l_run C.1 C.2.1 hd hlk hm hv tx_0 hci hn hdd hmL hst hW hcs hM hP hD hS hl) hS (fun q _ h => h) (fun q h => h) (fun r1 u t H1 locs1 ht' hvm hp hB hz hk hS1 => ?_)
  rw [hp]
  exact k H1 locs1 ls (by rw [← ht']; exact hB.1) hB.2.2 hS1 hl
theorem l_callM_J {pc idx n mL d b nb : Nat} {xs : Nat → Int32} {y : MethodName} {cd : ByteArray} {r : Int64} {M' : Mem} {T : u_T} {N : Nat} (C : LC p s m args c D ac A adX adM b nb xs) (hd : decode code pc = .ok (.invokevirtual idx, 3)) (hlk : Cond.methodLink RL idx y ∈ gt) (hm : Mc y cd mL (some .long) n) (hv : Mv y) (hci : classes[8]? = some (y.cls, T, N)) (As : List Value) (hn : As.length = n) (hdd : d ≤ 100) (hmL : mL ≤ 45) (hst : S0 = As.reverse ++ .ref (adM 0) :: S) (hW : (S.map fun v => v.category).sum ≤ 8) (hcs : nc ≤ 600000 ∧ ns ≤ 7302250)
    (hM : CtJ l D ac A tabM adM (wX ac adX Mx) y cd mL d (.ref (adM 0) :: As) Mm r M') (k : Ac p l e room_1 s m args below meth c D A 4 Q (pc + 3) L (.long r :: S) (wXM ac adX adM Mx M') nc ns) : Ac p l e room_1 s m args below meth c D A 4 Q pc L S0 (wXM ac adX adM Mx Mm) nc ns := fun H locs ls hP hD hS hl => by
  refine va_calll (l_run C.1 C.2.2.1 hd hlk hm hv tm_0 hci hn hdd hmL hst hW hcs hM (show va_P D classes (wl tabM ac adM (wX ac adX Mx) Mm) H by rw [wl_app]; exact P_swap (by have h := hP; unfold wXM at h; rw [wl_app] at h; exact h)) (show va_D A (wl tabM ac adM (wX ac adX Mx) Mm) by rw [wl_app]; exact D_swap (by have h := hD; unfold wXM at h; rw [wl_app] at h; exact h)) hS hl) hS (fun q _ h => h) (fun q h => h) (fun r1 u t H1 locs1 ht' hvm hp hB hz hk hS1 => ?_)
  rw [hp]
  refine k H1 locs1 ls ?_ ?_ hS1 hl
  · have h := hB.1; rw [ht', wl_app] at h; unfold wXM; rw [wl_app]; exact P_swap h
  · have h := hB.2.2; rw [wl_app] at h; unfold wXM; rw [wl_app]; exact D_swap h
end LROWS
/-- case 0: points -/
def St_0 (N : Nat) (Rel : Mem → Mem → Prop) : Prop := ∀ (Mx Mm : Mem) (a0 : Int32), Rel Mx Mm → ∃ (r : Int32) (Mx' : Mem) (Mm' : Mem), f_X7_points N a0 Mx = some (r, Mx') ∧ f_X8_points N a0 Mm = some (r, Mm') ∧ Rel Mx' Mm'
/-- case 1: line -/
def St_1 (N : Nat) (Rel : Mem → Mem → Prop) : Prop := ∀ (Mx Mm : Mem) (a0 : Int32) (a1 : Int32) (a2 : Int32) (a3 : Int32), Rel Mx Mm → ∃ (r : Int32) (Mx' : Mem) (Mm' : Mem), f_X7_line N a0 a1 a2 a3 Mx = some (r, Mx') ∧ f_X8_line N a0 a1 a2 a3 Mm = some (r, Mm') ∧ Rel Mx' Mm'
/-- case 2: lineOf -/
def St_2 (N : Nat) (Rel : Mem → Mem → Prop) : Prop := ∀ (Mx Mm : Mem) (a0 : Int32) (a1 : Int32), Rel Mx Mm → ∃ (r : Int32), f_X7_lineOf N a0 a1 Mx = some r ∧ f_X8_lineOf N a0 a1 Mm = some r ∧ Rel Mx Mm
/-- case 3: change -/
def St_3 (N : Nat) (Rel : Mem → Mem → Prop) : Prop := ∀ (Mx Mm : Mem) (a0 : Int32) (a1 : Int32) (a2 : Int32), Rel Mx Mm → ∃ (r : Int32) (Mx' : Mem) (Mm' : Mem), f_X7_change N a0 a1 a2 Mx = some (r, Mx') ∧ f_X8_change N a0 a1 a2 Mm = some (r, Mm') ∧ Rel Mx' Mm'
/-- case 4: drop -/
def St_4 (N : Nat) (Rel : Mem → Mem → Prop) : Prop := ∀ (Mx Mm : Mem) (a0 : Int32), Rel Mx Mm → ∃ (r : Int32) (Mx' : Mem) (Mm' : Mem), f_X7_drop N a0 Mx = some (r, Mx') ∧ f_X8_drop N a0 Mm = some (r, Mm') ∧ Rel Mx' Mm'
/-- case 5: list -/
def St_5 (N : Nat) (Rel : Mem → Mem → Prop) : Prop := ∀ (Mx Mm : Mem) (a0 : Int32) (a1 : Int64), Rel Mx Mm → ∃ (r : Int64) (Mx' : Mem) (Mm' : Mem), f_X7_list N a0 a1 Mx = some (r, Mx') ∧ f_X8_list N a0 a1 Mm = some (r, Mm') ∧ Rel Mx' Mm'
/-- case 6: count -/
def St_6 (N : Nat) (Rel : Mem → Mem → Prop) : Prop := ∀ (Mx Mm : Mem) (a0 : Int32), Rel Mx Mm → ∃ (r : Int32), f_X7_count N a0 Mx = some r ∧ f_X8_count N a0 Mm = some r ∧ Rel Mx Mm
/-- case 7: fits -/
def St_7 (N : Nat) (Rel : Mem → Mem → Prop) : Prop := ∀ (Mx Mm : Mem) (a0 : Int32) (a1 : Int32) (a2 : Int32), Rel Mx Mm → ∃ (r : Int32) (Mx' : Mem) (Mm' : Mem), f_X7_fits N a0 a1 a2 Mx = some (r, Mx') ∧ f_X8_fits N a0 a1 a2 Mm = some (r, Mm') ∧ Rel Mx' Mm'
/-- case 8: place -/
def St_8 (N : Nat) (Rel : Mem → Mem → Prop) : Prop := ∀ (Mx Mm : Mem) (a0 : Int32) (a1 : Int32) (a2 : Int32) (a3 : Int32), Rel Mx Mm → ∃ (r : Int32) (Mx' : Mem) (Mm' : Mem), f_X7_place N a0 a1 a2 a3 Mx = some (r, Mx') ∧ f_X8_place N a0 a1 a2 a3 Mm = some (r, Mm') ∧ Rel Mx' Mm'
/-- case 9: ways -/
def St_9 (N : Nat) (Rel : Mem → Mem → Prop) : Prop := ∀ (Mx Mm : Mem) (a0 : Int32) (a1 : Int32) (a2 : Int32), Rel Mx Mm → ∃ (r : Int32) (Mx' : Mem) (Mm' : Mem), f_X7_ways N a0 a1 a2 Mx = some (r, Mx') ∧ f_X8_ways N a0 a1 a2 Mm = some (r, Mm') ∧ Rel Mx' Mm'
/-- case 10: ratio -/
def St_10 (N : Nat) (Rel : Mem → Mem → Prop) : Prop := ∀ (Mx Mm : Mem) (a0 : Int32), Rel Mx Mm → ∃ (r : Int32) (Mx' : Mem) (Mm' : Mem), f_X7_ratio N a0 Mx = some (r, Mx') ∧ f_X8_ratio N a0 Mm = some (r, Mm') ∧ Rel Mx' Mm'
/-- case 11: whole -/
def St_11 (N : Nat) (Rel : Mem → Mem → Prop) : Prop := ∀ (Mx Mm : Mem) , Rel Mx Mm → ∃ (r : Int32) (Mx' : Mem) (Mm' : Mem), f_X7_whole N  Mx = some (r, Mx') ∧ f_X8_whole N  Mm = some (r, Mm') ∧ Rel Mx' Mm'
/-- case 12: off -/
def St_12 (N : Nat) (Rel : Mem → Mem → Prop) : Prop := ∀ (Mx Mm : Mem) (a0 : Int32), Rel Mx Mm → ∃ (r : Int32) (Mx' : Mem) (Mm' : Mem), f_X7_off N a0 Mx = some (r, Mx') ∧ f_X8_off N a0 Mm = some (r, Mm') ∧ Rel Mx' Mm'
/-- case 13: rings -/
def St_13 (N : Nat) (Rel : Mem → Mem → Prop) : Prop := ∀ (Mx Mm : Mem) , Rel Mx Mm → ∃ (r : Int32) (Mx' : Mem) (Mm' : Mem), f_X7_rings N  Mx = some (r, Mx') ∧ f_X8_rings N  Mm = some (r, Mm') ∧ Rel Mx' Mm'
/-- case 14: ring -/
def St_14 (N : Nat) (Rel : Mem → Mem → Prop) : Prop := ∀ (Mx Mm : Mem) (a0 : Int32) (a1 : Int32), Rel Mx Mm → ∃ (r : Int32) (Mx' : Mem) (Mm' : Mem), f_X7_ring N a0 a1 Mx = some (r, Mx') ∧ f_X8_ring N a0 a1 Mm = some (r, Mm') ∧ Rel Mx' Mm'
/-- case 15: circled -/
def St_15 (N : Nat) (Rel : Mem → Mem → Prop) : Prop := ∀ (Mx Mm : Mem) (a0 : Int32), Rel Mx Mm → ∃ (r : Int32) (Mx' : Mem) (Mm' : Mem), f_X7_circled N a0 Mx = some (r, Mx') ∧ f_X8_circled N a0 Mm = some (r, Mm') ∧ Rel Mx' Mm'
/-- case 16: rate -/
def St_16 (N : Nat) (Rel : Mem → Mem → Prop) : Prop := ∀ (Mx Mm : Mem) (a0 : Int32) (a1 : Int32), Rel Mx Mm → ∃ (r : Int32) (Mx' : Mem) (Mm' : Mem), f_X7_rate N a0 a1 Mx = some (r, Mx') ∧ f_X8_rate N a0 a1 Mm = some (r, Mm') ∧ Rel Mx' Mm'
/-- case 17: worst -/
def St_17 (N : Nat) (Rel : Mem → Mem → Prop) : Prop := ∀ (Mx Mm : Mem) (a0 : Int32), Rel Mx Mm → ∃ (r : Int32) (Mx' : Mem) (Mm' : Mem), f_X7_worst N a0 Mx = some (r, Mx') ∧ f_X8_worst N a0 Mm = some (r, Mm') ∧ Rel Mx' Mm'
/-- case 18: turns -/
def St_18 (N : Nat) (Rel : Mem → Mem → Prop) : Prop := ∀ (Mx Mm : Mem) (a0 : Int32), Rel Mx Mm → ∃ (r : Int32) (Mx' : Mem) (Mm' : Mem), f_X7_turns N a0 Mx = some (r, Mx') ∧ f_X8_turns N a0 Mm = some (r, Mm') ∧ Rel Mx' Mm'
/-- case 19: binds -/
def St_19 (N : Nat) (Rel : Mem → Mem → Prop) : Prop := ∀ (Mx Mm : Mem) , Rel Mx Mm → ∃ (r : Int32) (Mx' : Mem) (Mm' : Mem), f_X7_binds N  Mx = some (r, Mx') ∧ f_X8_binds N  Mm = some (r, Mm') ∧ Rel Mx' Mm'
/-- case 20: room -/
def St_20 (N : Nat) (Rel : Mem → Mem → Prop) : Prop := ∀ (Mx Mm : Mem) (a0 : Int32), Rel Mx Mm → ∃ (r : Int32) (Mx' : Mem) (Mm' : Mem), f_X7_room N a0 Mx = some (r, Mx') ∧ f_X8_room N a0 Mm = some (r, Mm') ∧ Rel Mx' Mm'
/-- case 21: judge -/
def St_21 (N : Nat) (Rel : Mem → Mem → Prop) : Prop := ∀ (Mx Mm : Mem) (a0 : Int32) (a1 : Int32) (a2 : Int32), Rel Mx Mm → ∃ (r : Int32) (Mm' : Mem), f_X7_judge N a0 a1 a2 Mx = some r ∧ f_X8_judge N a0 a1 a2 Mm = some (r, Mm') ∧ Rel Mx Mm'
/-- case 22: arcs -/
def St_22 (N : Nat) (Rel : Mem → Mem → Prop) : Prop := ∀ (Mx Mm : Mem) (a0 : Int32) (a1 : Int32) (a2 : Int32), Rel Mx Mm → ∃ (r : Int32) (Mm' : Mem), f_X7_arcs N a0 a1 a2 Mx = some r ∧ f_X8_arcs N a0 a1 a2 Mm = some (r, Mm') ∧ Rel Mx Mm'
/-- case 23: tight -/
def St_23 (N : Nat) (Rel : Mem → Mem → Prop) : Prop := ∀ (Mx Mm : Mem) (a0 : Int32) (a1 : Int32) (a2 : Int32) (a3 : Int32), Rel Mx Mm → ∃ (r : Int32) (Mx' : Mem) (Mm' : Mem), f_X7_tight N a0 a1 a2 a3 Mx = some (r, Mx') ∧ f_X8_tight N a0 a1 a2 a3 Mm = some (r, Mm') ∧ Rel Mx' Mm'
/-- case 24: rounds -/
def St_24 (N : Nat) (Rel : Mem → Mem → Prop) : Prop := ∀ (Mx Mm : Mem) (a0 : Int32) (a1 : Int32) (a2 : Int32) (a3 : Int32), Rel Mx Mm → ∃ (r : Int32) (Mx' : Mem) (Mm' : Mem), f_X7_rounds N a0 a1 a2 a3 Mx = some (r, Mx') ∧ f_X8_rounds N a0 a1 a2 a3 Mm = some (r, Mm') ∧ Rel Mx' Mm'
/-- case 25: next -/
def St_25 (N : Nat) (Rel : Mem → Mem → Prop) : Prop := ∀ (Mx Mm : Mem) (a0 : Int32) (a1 : Int32) (a2 : Int32) (a3 : Int32) (a4 : Int32), Rel Mx Mm → ∃ (r : Int32), f_X7_next N a0 a1 a2 a3 a4 Mx = some r ∧ f_X8_next N a0 a1 a2 a3 a4 Mm = some r ∧ Rel Mx Mm
/-- case 26: fraction -/
def St_26 (N : Nat) (Rel : Mem → Mem → Prop) : Prop := ∀ (Mx Mm : Mem) (a0 : Int32) (a1 : Int64) (a2 : Int64), Rel Mx Mm → ∃ (r : Int32) (Mx' : Mem) (Mm' : Mem), f_X7_fraction N a0 a1 a2 Mx = some (r, Mx') ∧ f_X8_fraction N a0 a1 a2 Mm = some (r, Mm') ∧ Rel Mx' Mm'
/-- case 27: hold -/
def St_27 (N : Nat) (Rel : Mem → Mem → Prop) : Prop := ∀ (Mx Mm : Mem) (a0 : Int32) (a1 : Int32) (a2 : Int32), Rel Mx Mm → ∃ (r : Int32) (Mx' : Mem) (Mm' : Mem), f_X7_hold N a0 a1 a2 Mx = some (r, Mx') ∧ f_X8_hold N a0 a1 a2 Mm = some (r, Mm') ∧ Rel Mx' Mm'
/-- case 28: does -/
def St_28 (N : Nat) (Rel : Mem → Mem → Prop) : Prop := ∀ (Mx Mm : Mem) (a0 : Int32) (a1 : Int32) (a2 : Int32), Rel Mx Mm → ∃ (r : Int32) (Mx' : Mem) (Mm' : Mem), f_X7_does N a0 a1 a2 Mx = some (r, Mx') ∧ f_X8_does N a0 a1 a2 Mm = some (r, Mm') ∧ Rel Mx' Mm'
/-- case 29: compare -/
def St_29 (N : Nat) (Rel : Mem → Mem → Prop) : Prop := ∀ (Mx Mm : Mem) (a0 : Int32) (a1 : Int32), Rel Mx Mm → ∃ (r : Int32), f_X7_compare N a0 a1 Mx = some r ∧ f_X8_compare N a0 a1 Mm = some r ∧ Rel Mx Mm
/-- case 30: told -/
def St_30 (N : Nat) (Rel : Mem → Mem → Prop) : Prop := ∀ (Mx Mm : Mem) (a0 : Int32) (a1 : Int32), Rel Mx Mm → ∃ (r : Int64), f_X7_told N a0 a1 Mx = some r ∧ f_X8_told N a0 a1 Mm = some r ∧ Rel Mx Mm
/-- case 31: feed -/
def St_31 (N : Nat) (Rel : Mem → Mem → Prop) : Prop := ∀ (Mx Mm : Mem) (a0 : Int32) (a1 : Int32), Rel Mx Mm → ∃ (r : Int32) (Mx' : Mem) (Mm' : Mem), f_X7_feed N a0 a1 Mx = some (r, Mx') ∧ f_X8_feed N a0 a1 Mm = some (r, Mm') ∧ Rel Mx' Mm'
/-- case 32: wipe -/
def St_32 (N : Nat) (Rel : Mem → Mem → Prop) : Prop := ∀ (Mx Mm : Mem) , Rel Mx Mm → ∃ (r : Int32) (Mx' : Mem) (Mm' : Mem), f_X7_wipe N  Mx = some (r, Mx') ∧ f_X8_wipe N  Mm = some (r, Mm') ∧ Rel Mx' Mm'
/-- case 33: text -/
def St_33 (N : Nat) (Rel : Mem → Mem → Prop) : Prop := ∀ (Mx Mm : Mem) , Rel Mx Mm → ∃ (r : Int32) (Mx' : Mem) (Mm' : Mem), f_X7_text N  Mx = some (r, Mx') ∧ f_X8_text N  Mm = some (r, Mm') ∧ Rel Mx' Mm'
/-- case 34: seed -/
def St_34 (N : Nat) (Rel : Mem → Mem → Prop) : Prop := ∀ (Mx Mm : Mem) (a0 : Int32), Rel Mx Mm → ∃ (r : Int32) (Mx' : Mem) (Mm' : Mem), f_X7_seed N a0 Mx = some (r, Mx') ∧ f_X8_seed N a0 Mm = some (r, Mm') ∧ Rel Mx' Mm'
/-- case 35: deal -/
def St_35 (N : Nat) (Rel : Mem → Mem → Prop) : Prop := ∀ (Mx Mm : Mem) (a0 : Int32) (a1 : Int32), Rel Mx Mm → ∃ (r : Int32) (Mx' : Mem) (Mm' : Mem), f_X7_deal N a0 a1 Mx = some (r, Mx') ∧ f_X8_deal N a0 a1 Mm = some (r, Mm') ∧ Rel Mx' Mm'
/-- case 36: sheet -/
def St_36 (N : Nat) (Rel : Mem → Mem → Prop) : Prop := ∀ (Mx Mm : Mem) (a0 : Int32) (a1 : Int32) (a2 : Int32), Rel Mx Mm → ∃ (r : Int32) (Mx' : Mem) (Mm' : Mem), f_X7_sheet N a0 a1 a2 Mx = some (r, Mx') ∧ f_X8_sheet N a0 a1 a2 Mm = some (r, Mm') ∧ Rel Mx' Mm'
/-- case 37: write -/
def St_37 (N : Nat) (Rel : Mem → Mem → Prop) : Prop := ∀ (Mx Mm : Mem) (a0 : Int32) (a1 : Int32) (a2 : Int64), Rel Mx Mm → ∃ (r : Int32) (Mx' : Mem) (Mm' : Mem), f_X7_write N a0 a1 a2 Mx = some (r, Mx') ∧ f_X8_write N a0 a1 a2 Mm = some (r, Mm') ∧ Rel Mx' Mm'
/-- case 38: item -/
def St_38 (N : Nat) (Rel : Mem → Mem → Prop) : Prop := ∀ (Mx Mm : Mem) (a0 : Int32) (a1 : Int32), Rel Mx Mm → ∃ (r : Int64), f_X7_item N a0 a1 Mx = some r ∧ f_X8_item_ N a0 a1 Mm = some r ∧ Rel Mx Mm
/-- case 39: copy -/
def St_39 (N : Nat) (Rel : Mem → Mem → Prop) : Prop := ∀ (Mx Mm : Mem) (a0 : Int32) (a1 : Int32) (a2 : Int32) (a3 : Int32) (a4 : Int32), Rel Mx Mm → ∃ (r : Int32) (Mx' : Mem) (Mm' : Mem), f_X7_copy N a0 a1 a2 a3 a4 Mx = some (r, Mx') ∧ f_X8_copy N a0 a1 a2 a3 a4 Mm = some (r, Mm') ∧ Rel Mx' Mm'
/-- case 40: paint -/
def St_40 (N : Nat) (Rel : Mem → Mem → Prop) : Prop := ∀ (Mx Mm : Mem) (a0 : Int32) (a1 : Int32) (a2 : Int32) (a3 : Int32), Rel Mx Mm → ∃ (r : Int32) (Mx' : Mem) (Mm' : Mem), f_X7_paint N a0 a1 a2 a3 Mx = some (r, Mx') ∧ f_X8_paint N a0 a1 a2 a3 Mm = some (r, Mm') ∧ Rel Mx' Mm'
/-- case 41: image -/
def St_41 (N : Nat) (Rel : Mem → Mem → Prop) : Prop := ∀ (Mx Mm : Mem) , Rel Mx Mm → ∃ (r : Int32) (Mx' : Mem) (Mm' : Mem), f_X7_image N  Mx = some (r, Mx') ∧ f_X8_image N  Mm = some (r, Mm') ∧ Rel Mx' Mm'
/-- case 42: back -/
def St_42 (N : Nat) (Rel : Mem → Mem → Prop) : Prop := ∀ (Mx Mm : Mem) , Rel Mx Mm → ∃ (r : Int32) (Mx' : Mem) (Mm' : Mem), f_X7_back N  Mx = some (r, Mx') ∧ f_X8_back N  Mm = some (r, Mm') ∧ Rel Mx' Mm'
def PureOk (N : Nat) (Rel : Mem → Mem → Prop) : Prop := Rel M0X M0M ∧ St_0 N Rel ∧ St_1 N Rel ∧ St_2 N Rel ∧ St_3 N Rel ∧ St_4 N Rel ∧ St_5 N Rel ∧ St_6 N Rel ∧ St_7 N Rel ∧ St_8 N Rel ∧ St_9 N Rel ∧ St_10 N Rel ∧ St_11 N Rel ∧ St_12 N Rel ∧ St_13 N Rel ∧ St_14 N Rel ∧ St_15 N Rel ∧ St_16 N Rel ∧ St_17 N Rel ∧ St_18 N Rel ∧ St_19 N Rel ∧ St_20 N Rel ∧ St_21 N Rel ∧ St_22 N Rel ∧ St_23 N Rel ∧ St_24 N Rel ∧ St_25 N Rel ∧ St_26 N Rel ∧ St_27 N Rel ∧ St_28 N Rel ∧ St_29 N Rel ∧ St_30 N Rel ∧ St_31 N Rel ∧ St_32 N Rel ∧ St_33 N Rel ∧ St_34 N Rel ∧ St_35 N Rel ∧ St_36 N Rel ∧ St_37 N Rel ∧ St_38 N Rel ∧ St_39 N Rel ∧ St_40 N Rel ∧ St_41 N Rel ∧ St_42 N Rel
