theorem g_ex : ∀ i, i < 9 → Cond.exactly (.string RX6 (sIdx.getD i 0)) "java/lang/String" ∈ flatC (Jvm.Cond.and given_1 narrow_1) := by decide +kernel
theorem g_co : ∀ i, i < 9 → Cond.eq (.field (.string RX6 (sIdx.getD i 0)) "java/lang/String" "coder" "B") (.int 0) ∈ flatC (Jvm.Cond.and given_1 narrow_1) := by decide +kernel
theorem g_ar : ∀ i, i < 9 → Cond.arrayOf (.field (.string RX6 (sIdx.getD i 0)) "java/lang/String" "value" "[B") .byte ∈ flatC (Jvm.Cond.and given_1 narrow_1) := by decide +kernel
theorem g_le : ∀ i, i < 9 → Cond.eq (.length (.field (.string RX6 (sIdx.getD i 0)) "java/lang/String" "value" "[B")) (.int (Int32.ofNat (sLen.getD i 0))) ∈ flatC (Jvm.Cond.and given_1 narrow_1) := by decide +kernel
theorem g_el : ∀ i, i < 9 → ∀ j, j < sLen.getD i 0 → Cond.eq (.elem (.field (.string RX6 (sIdx.getD i 0)) "java/lang/String" "value" "[B") (.int (Int32.ofNat j))) (.int ((sByt.getD i []).getD j 0)) ∈ flatC (Jvm.Cond.and given_1 narrow_1) := by decide +kernel
theorem g_ne : ∀ i, i < 9 → ∀ j, j < 9 → i ≠ j → Cond.not (Cond.eq (.string RX6 (sIdx.getD i 0)) (.string RX6 (sIdx.getD j 0))) ∈ flatC (Jvm.Cond.and given_1 narrow_1) ∨ Cond.not (Cond.eq (.string RX6 (sIdx.getD j 0)) (.string RX6 (sIdx.getD i 0))) ∈ flatC (Jvm.Cond.and given_1 narrow_1) := by decide +kernel
theorem g_sr : ∀ i, i < 9 → Cond.stringRef RX6 (sIdx.getD i 0) (sTx.getD i "") ∈ tables_1 := by decide +kernel
theorem g_ln : ∀ i, i < 9 → sLen.getD i 0 < 2 ^ 31 := by decide +kernel
theorem q_n1 : Cond.methodLinkNest RX4 106 yX7_commonPart "CircleTints" ∈ lw_tbl := List.mem_append_right _ (List.mem_of_getElem? (i := 413) (by decide +kernel))
theorem q_n2 : Cond.methodLinkNest RX0 35 yX7_commonPart "CircleTints" ∈ lw_tbl := List.mem_append_right _ (List.mem_of_getElem? (i := 643) (by decide +kernel))
theorem q_n3 : Cond.methodLinkNest RX7 45 yX3_init "CircleTints" ∈ lw_tbl := List.mem_append_right _ (List.mem_of_getElem? (i := 185) (by decide +kernel))
theorem q_n4 : Cond.methodLinkNest RX7 56 yX0_init "CircleTints" ∈ lw_tbl := List.mem_append_right _ (List.mem_of_getElem? (i := 197) (by decide +kernel))
theorem q_o1 : Cond.arrayOver (.object "CircleTints$Hold") ∈ lw_tbl := List.mem_append_right _ (List.mem_of_getElem? (i := 195) (by decide +kernel))
theorem q_o2 : Cond.arrayOver (.object "CircleTints$Sheet") ∈ lw_tbl := List.mem_append_right _ (List.mem_of_getElem? (i := 233) (by decide +kernel))
theorem q_s1 : Cond.laysStatic "java/lang/String" "COMPACT_STRINGS" "Z" ∈ lw_tbl := List.mem_append_right _ (List.mem_of_getElem? (i := 768) (by decide +kernel))
theorem q_s2 : Cond.laysStatic "jdk/internal/util/Preconditions" "SIOOBE_FORMATTER" "Ljava/util/function/BiFunction;" ∈ lw_tbl := List.mem_append_right _ (List.mem_of_getElem? (i := 784) (by decide +kernel))
theorem q_i1 : Cond.initialized "java/lang/String" ∈ lw_tbl := List.mem_append_right _ (List.mem_of_getElem? (i := 15) (by decide +kernel))
theorem q_i2 : Cond.initialized "jdk/internal/util/Preconditions" ∈ lw_tbl := List.mem_append_right _ (List.mem_of_getElem? (i := 17) (by decide +kernel))
theorem adF_K {xs : List Nat} {adK adV : Nat → Nat} {i : Nat} (h : i < 9) : adF xs adK adV (1000 + i) = adK i := by
  unfold adF
  rw [if_neg (by omega), if_pos (by omega), show 1000 + i - 1000 = i by omega]
theorem adF_V {xs : List Nat} {adK adV : Nat → Nat} {i : Nat} (h : i < 9) : adF xs adK adV (2000 + i) = adV i := by
  unfold adF
  rw [if_neg (by omega), if_neg (by omega), show 2000 + i - 2000 = i by omega]
theorem vkS_adF {xs : List Nat} {adK adV : Nat → Nat} {A : Nat → Prop} {U : State} {H : Heap} (h : vk_S 9 sLen sByt adK adV A U H) : vk_S 9 sLen sByt (fun i => adF xs adK adV (1000 + i)) (fun i => adF xs adK adV (2000 + i)) A U H := by
  refine ⟨fun i hi => ?_, fun i j hi hj e => h.2 i j hi hj (by have h1 : adF xs adK adV (1000 + i) = adF xs adK adV (1000 + j) := e; rw [adF_K hi, adF_K hj] at h1; exact h1)⟩
  show va_O _ (adF xs adK adV (1000 + i)) A U H ∧ va_OF _ _ _ _ (adF xs adK adV (1000 + i)) A U H ∧ va_OF _ _ _ (.ref (adF xs adK adV (2000 + i))) (adF xs adK adV (1000 + i)) A U H ∧ va_T _ (adF xs adK adV (2000 + i)) _ _ A U H
  rw [adF_K hi, adF_V hi]
  exact h.1 i hi
set_option maxRecDepth 100000 in
set_option maxHeartbeats 8000000 in
/-- what the statement gives at the law's entry -/
theorem law_given {s : State} {b : Nat} (hts : ∀ w ∈ lw_tbl, w.before #[Value.ref b] s = true) (hgv : (Jvm.Cond.and given_1 narrow_1).before #[Value.ref b] s = true) : ∃ (D : va_G) (ac : Nat → ClassId) (adK adV : Nat → Nat), va_K D classes (tysOf ac) s ∧ NX s ∧ ∀ xs : List Nat, KS D ac (adF xs adK adV) (fun q => s.heap.size ≤ q) s := by
  have hg : ∀ w ∈ gt, w.before #[Value.ref b] s = true := fun w hw => hts w (List.mem_filter.mp hw).1
  have hs := flat_of_before _ hgv
  have hA : ∀ a : Nat, a < s.heap.size → ¬ (fun q : Nat => s.heap.size ≤ q) a := fun a h => Nat.not_le.mpr h
  obtain ⟨c0, i0, k0⟩ := u_known (C := RX0) (T := TX0) (N := 7) (n := 7) hg kl_0 (hg _ in_X0)
  obtain ⟨c1, i1, k1⟩ := u_known (C := RX1) (T := TX1) (N := 8) (n := 8) hg kl_1 (hg _ in_X1)
  obtain ⟨c2, i2, k2⟩ := u_known (C := RX2) (T := TX2) (N := 7) (n := 7) hg kl_2 (hg _ in_X2)
  obtain ⟨c3, i3, k3⟩ := u_known (C := RX3) (T := TX3) (N := 1) (n := 1) hg kl_3 (hg _ in_X3)
  obtain ⟨c4, i4, k4⟩ := u_known (C := RX4) (T := TX4) (N := 12) (n := 12) hg kl_4 (hg _ in_X4)
  obtain ⟨c5, i5, k5⟩ := u_known (C := RX5) (T := TX5) (N := 3) (n := 3) hg kl_5 (hg _ in_X5)
  obtain ⟨c6, i6, k6⟩ := u_known (C := RX6) (T := TX6) (N := 6) (n := 6) hg kl_6 (hg _ in_X6)
  obtain ⟨c7, i7, k7⟩ := u_known (C := RX7) (T := TX7) (N := 10) (n := 10) hg kl_7 (hg _ in_X7)
  obtain ⟨c8, i8, k8⟩ := u_known (C := RX8) (T := TX8) (N := 44) (n := 44) hg kl_8 (hg _ in_X8)
  obtain ⟨D, hD⟩ : ∃ D : va_G, ∀ (k : Nat) (q : vw_C), classes[k]? = some q → u_Kn s q.1 q.2.1 q.2.2 (D.1 k) (D.2 k) := by
    refine ⟨(fun k => ([c0, c1, c2, c3, c4, c5, c6, c7, c8] : List ClassId).getD k c0, fun k => ([i0, i1, i2, i3, i4, i5, i6, i7, i8] : List (Nat → Nat)).getD k i0), ?_⟩
    intro k q hq
    match k, hq with
    | 0, hq => have h2 := Option.some.inj hq; subst h2; exact k0
    | 1, hq => have h2 := Option.some.inj hq; subst h2; exact k1
    | 2, hq => have h2 := Option.some.inj hq; subst h2; exact k2
    | 3, hq => have h2 := Option.some.inj hq; subst h2; exact k3
    | 4, hq => have h2 := Option.some.inj hq; subst h2; exact k4
    | 5, hq => have h2 := Option.some.inj hq; subst h2; exact k5
    | 6, hq => have h2 := Option.some.inj hq; subst h2; exact k6
    | 7, hq => have h2 := Option.some.inj hq; subst h2; exact k7
    | 8, hq => have h2 := Option.some.inj hq; subst h2; exact k8
    | k + 9, hq => simp [classes] at hq
  obtain ⟨cI, kI, mI, a1, a2, a3⟩ := Cond.arrayClass_spec (hg _ wd_aI)
  obtain ⟨cJ, kJ, mJ, b1, b2, b3⟩ := Cond.arrayClass_spec (hg _ wd_aJ)
  obtain ⟨mH, cH, kH, d1, -, d3, d4, d5⟩ := Cond.arrayOver_spec (hts _ q_o1)
  obtain ⟨mS, cS, kS, e1, -, e3, e4, e5⟩ := Cond.arrayOver_spec (hts _ q_o2)
  obtain ⟨ac, hac⟩ : ∃ ac : Nat → ClassId, ∀ (k : Nat) (q : ClassId × FieldType), (tysOf ac)[k]? = some q → ArrOfT s q.1 q.2 ∧ va_RA s q.1 q.2 := by
    refine ⟨fun t => ([cI, cJ, cH, cS] : List ClassId).getD t cI, ?_⟩
    intro k q hq
    match k, hq with
    | 0, hq => have h2 := Option.some.inj hq; subst h2; exact ⟨fun n z => ⟨fun k h => (by cases h), kI, a2, mI, a3⟩, a1⟩
    | 1, hq => have h2 := Option.some.inj hq; subst h2; exact ⟨fun n z => ⟨fun k h => (by cases h), kJ, b2, mJ, b3⟩, b1⟩
    | 2, hq => have h2 := Option.some.inj hq; subst h2; exact ⟨fun n z => ⟨fun k h => (by cases h), kH, d3, mH, d4⟩, kH, mH, d3, d4, d1, d5⟩
    | 3, hq => have h2 := Option.some.inj hq; subst h2; exact ⟨fun n z => ⟨fun k h => (by cases h), kS, e3, mS, e4⟩, kS, mS, e3, e4, e1, e5⟩
    | k + 4, hq => simp [tysOf] at hq
  obtain ⟨adK, adV, hS, hE⟩ := vk_Sof (args := #[Value.ref b]) (s := s) (N := 9) (tm := fun i => .string RX6 (sIdx.getD i 0)) (len := sLen) (byt := sByt) (A := fun q => s.heap.size ≤ q) g_ln (fun i hi => hs _ (g_ex i hi)) (fun i hi => hs _ (g_co i hi)) (fun i hi => hs _ (g_ar i hi)) (fun i hi => hs _ (g_le i hi)) (fun i hi j hj => hs _ (g_el i hi j hj)) (fun i j hi hj hij => (g_ne i hi j hj hij).imp (hs _) (hs _)) hA
  refine ⟨D, ac, adK, adV, ⟨hD, hac⟩, ⟨va_Nw.of rfl (hts _ q_n3), va_Nw.of rfl (hts _ q_n4), va_AO.of (hts _ q_o1), va_AO.of (hts _ q_o2)⟩, fun xs => ⟨⟨⟨hD, hac⟩, va_Nw.of rfl (hts _ q_n1), va_Nw.of rfl (hts _ q_n2)⟩, vkS_adF hS, fun i hi => ?_, ?_, ?_⟩⟩
  · rw [adF_K hi]
    exact vk_R.of (A := #[Value.ref b]) (hts _ (List.mem_append_right _ (g_sr i hi))) (hE i hi)
  · exact va_Zof (hts _ q_s1) (hts _ q_i1) (va_eqi (hs _ (by decide +kernel))) hA
  · exact va_Zqof (hts _ q_s2) (hts _ q_i2) (hs _ (by decide +kernel)) hA
set_option maxRecDepth 100000 in
set_option maxHeartbeats 8000000 in
/-- THE LAW, from its entry, over the pure steps -/
theorem whole_open {N : Nat} {Rel : Mem → Mem → Prop} (hp : PureOk N Rel) {p : Program} {e : Env} {s : State} {m : MethodId} {below : List Frame} {meth : Method} {c : Code} (l : Launch) (hflags : l.flags = flags0) {b L : Nat} {xs : Nat → Int32} (hL : L ≤ 3072) (C0 : lw_At p s m meth c b L xs) : W p l e room_1 s m #[Value.ref b] below meth c s.heap [] 0 0 (lw_Z below #[Value.ref b] s) (entryFrame m ([Value.ref b] : List Value).toArray 4) := by
  obtain ⟨hx, hb, hr, hml, hown, hts, hX, hbl, hlocks, hgv⟩ := C0
  obtain ⟨D, ac, adK, adV, hK, hnx, hKS⟩ := law_given hts hgv
  have C : Cc p s m #[Value.ref b] c code 4 RL D ac (fun q => s.heap.size ≤ q) := ⟨hx, hb, hml, hown, fun w hw => hts w (List.mem_filter.mp hw).1, hK, fun _ h => h⟩
  have hl := lv_entry [.ref b] (n := 4) (Nat.le_of_ble_eq_true rfl)
  rw [lg_entry_eq]
  have K : Ac p l e room_1 s m #[Value.ref b] below meth c D (fun q => s.heap.size ≤ q) 4 (lw_Z below #[Value.ref b] s) 0 [(0, .ref b)] [] [] 0 0 := by
    refine c_new (pc := 0) (ci := 7) (ty := tyX7) [.null, .null, .null, .int 0, .null, .null, .null, .null, .null, .null] C dL_law_0 cl_L_7 in_X7 ii_X7 rfl kl_7 tyX7_ok (fun j hj => by rcases (show j = 0 ∨ j = 1 ∨ j = 2 ∨ j = 3 ∨ j = 4 ∨ j = 5 ∨ j = 6 ∨ j = 7 ∨ j = 8 ∨ j = 9 by omega) with rfl | rfl | rfl | rfl | rfl | rfl | rfl | rfl | rfl | rfl <;> rfl) (Nat.le_of_ble_eq_true rfl) (Nat.le_of_ble_eq_true rfl) (fun h1 => ?_)
    refine c_dup (pc := 3) C dL_law_3 rfl ?_
    refine c_init (pc := 4) C hnx dL_law_4 ml_L_9 mc_X7_init im_X7 rfl ⟨Nat.le_of_ble_eq_true rfl, Nat.le_of_ble_eq_true rfl⟩ (Nat.le_of_ble_eq_true rfl) ⟨Nat.le_of_ble_eq_true rfl, Nat.le_of_ble_eq_true rfl⟩ (n_X7 h1 []) (fun u => ?_)
    refine c_astore_n (pc := 7) [(1, .ref h1), (0, .ref b)] C dL_law_7 (by decide) rfl ?_
    refine c_new (pc := 8) (ci := 8) (ty := tyX8) [.int 0, .int 0, .int 0, .null, .null, .null, .null, .null, .int 0, .int 0, .null, .null, .int 0, .int 0, .null, .null, .null, .int 0, .int 0, .int 0, .int 0, .int 0, .null, .null, .null, .null, .null, .null, .null, .int 0, .null, .int 0, .int 0, .int 0, .int 0, .int 0, .null, .null, .null, .null, .null, .null, .null, .int 0] C dL_law_8 cl_L_10 in_X8 ii_X8 rfl kl_8 tyX8_ok (fun j hj => by rcases (show j = 0 ∨ j = 1 ∨ j = 2 ∨ j = 3 ∨ j = 4 ∨ j = 5 ∨ j = 6 ∨ j = 7 ∨ j = 8 ∨ j = 9 ∨ j = 10 ∨ j = 11 ∨ j = 12 ∨ j = 13 ∨ j = 14 ∨ j = 15 ∨ j = 16 ∨ j = 17 ∨ j = 18 ∨ j = 19 ∨ j = 20 ∨ j = 21 ∨ j = 22 ∨ j = 23 ∨ j = 24 ∨ j = 25 ∨ j = 26 ∨ j = 27 ∨ j = 28 ∨ j = 29 ∨ j = 30 ∨ j = 31 ∨ j = 32 ∨ j = 33 ∨ j = 34 ∨ j = 35 ∨ j = 36 ∨ j = 37 ∨ j = 38 ∨ j = 39 ∨ j = 40 ∨ j = 41 ∨ j = 42 ∨ j = 43 by omega) with rfl | rfl | rfl | rfl | rfl | rfl | rfl | rfl | rfl | rfl | rfl | rfl | rfl | rfl | rfl | rfl | rfl | rfl | rfl | rfl | rfl | rfl | rfl | rfl | rfl | rfl | rfl | rfl | rfl | rfl | rfl | rfl | rfl | rfl | rfl | rfl | rfl | rfl | rfl | rfl | rfl | rfl | rfl | rfl <;> rfl) (Nat.le_of_ble_eq_true rfl) (Nat.le_of_ble_eq_true rfl) (fun h2 => ?_)
    refine c_dup (pc := 11) C dL_law_11 rfl ?_
    refine c_init (pc := 12) C hnx dL_law_12 ml_L_12 mc_X8_init im_X8 rfl ⟨Nat.le_of_ble_eq_true rfl, Nat.le_of_ble_eq_true rfl⟩ (Nat.le_of_ble_eq_true rfl) ⟨Nat.le_of_ble_eq_true rfl, Nat.le_of_ble_eq_true rfl⟩ (n_X8 h2 (nw_X7 ac h1 [] u)) (fun u2 => ?_)
    refine c_astore_n (pc := 15) [(2, .ref h2), (1, .ref h1), (0, .ref b)] C dL_law_15 (by decide) rfl ?_
    refine c_iconst (pc := 16) (v := 0) C dL_law_16 (by decide) ?_
    refine c_istore_n (pc := 17) [(3, .int 0), (2, .ref h2), (1, .ref h1), (0, .ref b)] C dL_law_17 (by decide) rfl ?_
    refine c_sub [3, 2, 1, 0] rfl ?_
    intro H locs ls hP hD hS hl
    exact law_loop hp ⟨C, hKS (xsX h1 u), hKS (xsM h2 u2), hX, hbl, Nat.not_le.mpr hbl⟩ hr hlocks hL (Nat.le_of_ble_eq_true rfl) (Nat.le_of_ble_eq_true rfl) (L + 1) 0 0 M0X M0M (by omega) (by omega) rfl hp.1 H locs ls (W0_P hP) (W0_D hD) hS hl
  exact K _ _ _ (fun k q h => by simp at h) ⟨fun i j p q h => by simp at h, fun k q h => by simp at h⟩ va_S.rf hl
