theorem ix_le {n i : Nat} {x3 : Int32} (hx : x3 = nI i) (hn : n ≤ 3072) (hi : i ≤ 4000) (h : ¬ (Int32.ofNat n - 6 < x3)) : i + 6 ≤ n := by
  subst hx
  have h6 : (6 : Int32) = nI 6 := by decide
  rw [h6] at h
  have e1 : (nI n - nI 6).toInt = (n : Int) - (6 : Nat) := pk_sub_toInt (by omega) (by decide)
  have e2 : (nI i).toInt = (i : Int) := nI_toInt (by omega)
  have h2 : ¬ ((nI n - nI 6).toInt < (nI i).toInt) := fun q => h (Int32.lt_iff_toInt_lt.mpr q)
  rw [e1, e2] at h2
  omega
theorem ix_in {n i j : Nat} {x3 v : Int32} (hx : x3 = nI i) (hv : v = nI j) (hn : n ≤ 3072) (h : i + j < n) : vp_in (x3 + v) n := by
  subst hx; subst hv
  rw [nI_add]
  exact vp_in_nI h (by omega)
set_option maxRecDepth 100000 in
set_option maxHeartbeats 8000000 in
theorem law_loop {p : Program} {l : Launch} {e : Env} {s : State} {m : MethodId} {below : List Frame} {meth : Method} {c : Code} {D : va_G} {ac : Nat → ClassId} {adX adM : Nat → Nat} {b n nc ns : Nat} {xs : Nat → Int32} {N : Nat} {Rel : Mem → Mem → Prop} (hp : PureOk N Rel) (C : LC p s m #[Value.ref b] c D ac (fun q => s.heap.size ≤ q) adX adM b n xs) (hr : meth.sig.returnType = ret) (hlocks : meth.locks = false) (hn : n ≤ 3072) (hnc : nc ≤ 600000) (hns : ns ≤ 7302250) : ∀ (k i : Nat) (x3 : Int32) (Mx Mm : Mem), n < i + 6 * k → i ≤ n → x3 = nI i → Rel Mx Mm → Ac p l e room_1 s m #[Value.ref b] below meth c D (fun q => s.heap.size ≤ q) 4 (lw_Z below #[Value.ref b] s) 18 [(0, .ref b), (1, .ref (adX 0)), (2, .ref (adM 0)), (3, .int x3)] [] (wXM ac adX adM Mx Mm) nc ns := by
  intro k
  induction k with
  | zero => intro i x3 Mx Mm h1 h2; omega
  | succ k ih =>
  intro i x3 Mx Mm h1 h2 hx hrel
  refine c_iload_n (pc := 18) C.1 dL_law_18 3 rfl ?_
  refine c_aload_n (pc := 19) C.1 dL_law_19 0 rfl ?_
  refine c_scrl (pc := 20) C dL_law_20 ?_
  refine c_bipush (pc := 21) (v := 6) C.1 dL_law_21 (by decide) ?_
  refine c_isub (pc := 23) C.1 dL_law_23 ?_
  refine c_icmp_gt (pc := 24) 1788 C.1 dL_law_24 (by decide) (fun _ => ?_) (fun hc => ?_)
  · intro H locs ls hP hD hS hl
    refine va_forget (fun q hq => hS.2.2 q hq) ?_
    refine lv_iconst (v := 1) C.1.1 C.1.2.1 dL_law_1788 (by decide) ?_
    refine W.widen hnc hns ?_
    exact lw_ret C.1.1 C.1.2.1 hr hlocks dL_law_1789
  · have hle : i + 6 ≤ n := ix_le hx hn (by omega) hc
    have hi0 : vp_in x3 n := by rw [hx]; exact vp_in_nI (by omega) (by omega)
    have hi1 : vp_in (x3 + 1) n := ix_in (j := 1) hx (by decide) hn (by omega)
    have hi2 : vp_in (x3 + 2) n := ix_in (j := 2) hx (by decide) hn (by omega)
    have hi3 : vp_in (x3 + 3) n := ix_in (j := 3) hx (by decide) hn (by omega)
    have hi4 : vp_in (x3 + 4) n := ix_in (j := 4) hx (by decide) hn (by omega)
    have hi5 : vp_in (x3 + 5) n := ix_in (j := 5) hx (by decide) hn (by omega)
    have next : ∀ Mx2 Mm2, Rel Mx2 Mm2 → Ac p l e room_1 s m #[Value.ref b] below meth c D (fun q => s.heap.size ≤ q) 4 (lw_Z below #[Value.ref b] s) 1782 [(0, .ref b), (1, .ref (adX 0)), (2, .ref (adM 0)), (3, .int x3)] [] (wXM ac adX adM Mx2 Mm2) nc ns := by
      intro Mx2 Mm2 hr2
      refine c_iinc (pc := 1782) (v := x3 + 6) [(3, .int (x3 + 6)), (0, .ref b), (1, .ref (adX 0)), (2, .ref (adM 0))] C.1 dL_law_1782 3 rfl rfl (by decide) rfl ?_
      refine c_goto (pc := 1785) 18 C.1 dL_law_1785 (by decide) ?_
      refine c_sub [1, 2, 3, 0] rfl ?_
      exact ih (i + 6) (x3 + 6) Mx2 Mm2 (by omega) (by omega) (by rw [hx, show (6 : Int32) = nI 6 by decide, nI_add]) hr2
    refine c_aload_n (pc := 27) C.1 dL_law_27 0 rfl ?_
    refine c_iload_n (pc := 28) C.1 dL_law_28 3 rfl ?_
    refine c_sld (pc := 29) C dL_law_29 hi0 ?_
    refine c_bipush (pc := 30) (v := 63) C.1 dL_law_30 (by decide) ?_
    refine c_iand (pc := 32) C.1 dL_law_32 ?_
    obtain ⟨j, hj, hv⟩ := pk_andE (xs x3.toNatClampNeg) (m := 63) 6 (by decide)
    rw [hv]
    by_cases h0 : j = 0
    · subst h0
      refine c_tabIn (pc := 33) (off := 187) 220 C.1 dL_law_33 (by decide) (by decide) (by decide +kernel) (by decide) ?_
      exact case_0 hp C hnc hns hi1 hi2 hi3 hi4 hi5 Mx Mm hrel next
    by_cases h1 : j = 1
    · subst h1
      refine c_tabIn (pc := 33) (off := 210) 243 C.1 dL_law_33 (by decide) (by decide) (by decide +kernel) (by decide) ?_
      exact case_1 hp C hnc hns hi1 hi2 hi3 hi4 hi5 Mx Mm hrel next
    by_cases h2 : j = 2
    · subst h2
      refine c_tabIn (pc := 33) (off := 263) 296 C.1 dL_law_33 (by decide) (by decide) (by decide +kernel) (by decide) ?_
      exact case_2 hp C hnc hns hi1 hi2 hi3 hi4 hi5 Mx Mm hrel next
    by_cases h3 : j = 3
    · subst h3
      refine c_tabIn (pc := 33) (off := 296) 329 C.1 dL_law_33 (by decide) (by decide) (by decide +kernel) (by decide) ?_
      exact case_3 hp C hnc hns hi1 hi2 hi3 hi4 hi5 Mx Mm hrel next
    by_cases h4 : j = 4
    · subst h4
      refine c_tabIn (pc := 33) (off := 339) 372 C.1 dL_law_33 (by decide) (by decide) (by decide +kernel) (by decide) ?_
      exact case_4 hp C hnc hns hi1 hi2 hi3 hi4 hi5 Mx Mm hrel next
    by_cases h5 : j = 5
    · subst h5
      refine c_tabIn (pc := 33) (off := 362) 395 C.1 dL_law_33 (by decide) (by decide) (by decide +kernel) (by decide) ?_
      exact case_5 hp C hnc hns hi1 hi2 hi3 hi4 hi5 Mx Mm hrel next
    by_cases h6 : j = 6
    · subst h6
      refine c_tabIn (pc := 33) (off := 426) 459 C.1 dL_law_33 (by decide) (by decide) (by decide +kernel) (by decide) ?_
      exact case_6 hp C hnc hns hi1 hi2 hi3 hi4 hi5 Mx Mm hrel next
    by_cases h7 : j = 7
    · subst h7
      refine c_tabIn (pc := 33) (off := 449) 482 C.1 dL_law_33 (by decide) (by decide) (by decide +kernel) (by decide) ?_
      exact case_7 hp C hnc hns hi1 hi2 hi3 hi4 hi5 Mx Mm hrel next
    by_cases h8 : j = 8
    · subst h8
      refine c_tabIn (pc := 33) (off := 492) 525 C.1 dL_law_33 (by decide) (by decide) (by decide +kernel) (by decide) ?_
      exact case_8 hp C hnc hns hi1 hi2 hi3 hi4 hi5 Mx Mm hrel next
    by_cases h9 : j = 9
    · subst h9
      refine c_tabIn (pc := 33) (off := 545) 578 C.1 dL_law_33 (by decide) (by decide) (by decide +kernel) (by decide) ?_
      exact case_9 hp C hnc hns hi1 hi2 hi3 hi4 hi5 Mx Mm hrel next
    by_cases h10 : j = 10
    · subst h10
      refine c_tabIn (pc := 33) (off := 588) 621 C.1 dL_law_33 (by decide) (by decide) (by decide +kernel) (by decide) ?_
      exact case_10 hp C hnc hns hi1 hi2 hi3 hi4 hi5 Mx Mm hrel next
    by_cases h11 : j = 11
    · subst h11
      refine c_tabIn (pc := 33) (off := 611) 644 C.1 dL_law_33 (by decide) (by decide) (by decide +kernel) (by decide) ?_
      exact case_11 hp C hnc hns hi1 hi2 hi3 hi4 hi5 Mx Mm hrel next
    by_cases h12 : j = 12
    · subst h12
      refine c_tabIn (pc := 33) (off := 624) 657 C.1 dL_law_33 (by decide) (by decide) (by decide +kernel) (by decide) ?_
      exact case_12 hp C hnc hns hi1 hi2 hi3 hi4 hi5 Mx Mm hrel next
    by_cases h13 : j = 13
    · subst h13
      refine c_tabIn (pc := 33) (off := 647) 680 C.1 dL_law_33 (by decide) (by decide) (by decide +kernel) (by decide) ?_
      exact case_13 hp C hnc hns hi1 hi2 hi3 hi4 hi5 Mx Mm hrel next
    by_cases h14 : j = 14
    · subst h14
      refine c_tabIn (pc := 33) (off := 660) 693 C.1 dL_law_33 (by decide) (by decide) (by decide +kernel) (by decide) ?_
      exact case_14 hp C hnc hns hi1 hi2 hi3 hi4 hi5 Mx Mm hrel next
    by_cases h15 : j = 15
    · subst h15
      refine c_tabIn (pc := 33) (off := 693) 726 C.1 dL_law_33 (by decide) (by decide) (by decide +kernel) (by decide) ?_
      exact case_15 hp C hnc hns hi1 hi2 hi3 hi4 hi5 Mx Mm hrel next
    by_cases h16 : j = 16
    · subst h16
      refine c_tabIn (pc := 33) (off := 716) 749 C.1 dL_law_33 (by decide) (by decide) (by decide +kernel) (by decide) ?_
      exact case_16 hp C hnc hns hi1 hi2 hi3 hi4 hi5 Mx Mm hrel next
    by_cases h17 : j = 17
    · subst h17
      refine c_tabIn (pc := 33) (off := 749) 782 C.1 dL_law_33 (by decide) (by decide) (by decide +kernel) (by decide) ?_
      exact case_17 hp C hnc hns hi1 hi2 hi3 hi4 hi5 Mx Mm hrel next
    by_cases h18 : j = 18
    · subst h18
      refine c_tabIn (pc := 33) (off := 772) 805 C.1 dL_law_33 (by decide) (by decide) (by decide +kernel) (by decide) ?_
      exact case_18 hp C hnc hns hi1 hi2 hi3 hi4 hi5 Mx Mm hrel next
    by_cases h19 : j = 19
    · subst h19
      refine c_tabIn (pc := 33) (off := 795) 828 C.1 dL_law_33 (by decide) (by decide) (by decide +kernel) (by decide) ?_
      exact case_19 hp C hnc hns hi1 hi2 hi3 hi4 hi5 Mx Mm hrel next
    by_cases h20 : j = 20
    · subst h20
      refine c_tabIn (pc := 33) (off := 808) 841 C.1 dL_law_33 (by decide) (by decide) (by decide +kernel) (by decide) ?_
      exact case_20 hp C hnc hns hi1 hi2 hi3 hi4 hi5 Mx Mm hrel next
    by_cases h21 : j = 21
    · subst h21
      refine c_tabIn (pc := 33) (off := 831) 864 C.1 dL_law_33 (by decide) (by decide) (by decide +kernel) (by decide) ?_
      exact case_21 hp C hnc hns hi1 hi2 hi3 hi4 hi5 Mx Mm hrel next
    by_cases h22 : j = 22
    · subst h22
      refine c_tabIn (pc := 33) (off := 874) 907 C.1 dL_law_33 (by decide) (by decide) (by decide +kernel) (by decide) ?_
      exact case_22 hp C hnc hns hi1 hi2 hi3 hi4 hi5 Mx Mm hrel next
    by_cases h23 : j = 23
    · subst h23
      refine c_tabIn (pc := 33) (off := 917) 950 C.1 dL_law_33 (by decide) (by decide) (by decide +kernel) (by decide) ?_
      exact case_23 hp C hnc hns hi1 hi2 hi3 hi4 hi5 Mx Mm hrel next
    by_cases h24 : j = 24
    · subst h24
      refine c_tabIn (pc := 33) (off := 970) 1003 C.1 dL_law_33 (by decide) (by decide) (by decide +kernel) (by decide) ?_
      exact case_24 hp C hnc hns hi1 hi2 hi3 hi4 hi5 Mx Mm hrel next
    by_cases h25 : j = 25
    · subst h25
      refine c_tabIn (pc := 33) (off := 1023) 1056 C.1 dL_law_33 (by decide) (by decide) (by decide +kernel) (by decide) ?_
      exact case_25 hp C hnc hns hi1 hi2 hi3 hi4 hi5 Mx Mm hrel next
    by_cases h26 : j = 26
    · subst h26
      refine c_tabIn (pc := 33) (off := 1086) 1119 C.1 dL_law_33 (by decide) (by decide) (by decide +kernel) (by decide) ?_
      exact case_26 hp C hnc hns hi1 hi2 hi3 hi4 hi5 Mx Mm hrel next
    by_cases h27 : j = 27
    · subst h27
      refine c_tabIn (pc := 33) (off := 1189) 1222 C.1 dL_law_33 (by decide) (by decide) (by decide +kernel) (by decide) ?_
      exact case_27 hp C hnc hns hi1 hi2 hi3 hi4 hi5 Mx Mm hrel next
    by_cases h28 : j = 28
    · subst h28
      refine c_tabIn (pc := 33) (off := 1232) 1265 C.1 dL_law_33 (by decide) (by decide) (by decide +kernel) (by decide) ?_
      exact case_28 hp C hnc hns hi1 hi2 hi3 hi4 hi5 Mx Mm hrel next
    by_cases h29 : j = 29
    · subst h29
      refine c_tabIn (pc := 33) (off := 1275) 1308 C.1 dL_law_33 (by decide) (by decide) (by decide +kernel) (by decide) ?_
      exact case_29 hp C hnc hns hi1 hi2 hi3 hi4 hi5 Mx Mm hrel next
    by_cases h30 : j = 30
    · subst h30
      refine c_tabIn (pc := 33) (off := 1308) 1341 C.1 dL_law_33 (by decide) (by decide) (by decide +kernel) (by decide) ?_
      exact case_30 hp C hnc hns hi1 hi2 hi3 hi4 hi5 Mx Mm hrel next
    by_cases h31 : j = 31
    · subst h31
      refine c_tabIn (pc := 33) (off := 1342) 1375 C.1 dL_law_33 (by decide) (by decide) (by decide +kernel) (by decide) ?_
      exact case_31 hp C hnc hns hi1 hi2 hi3 hi4 hi5 Mx Mm hrel next
    by_cases h32 : j = 32
    · subst h32
      refine c_tabIn (pc := 33) (off := 1375) 1408 C.1 dL_law_33 (by decide) (by decide) (by decide +kernel) (by decide) ?_
      exact case_32 hp C hnc hns hi1 hi2 hi3 hi4 hi5 Mx Mm hrel next
    by_cases h33 : j = 33
    · subst h33
      refine c_tabIn (pc := 33) (off := 1388) 1421 C.1 dL_law_33 (by decide) (by decide) (by decide +kernel) (by decide) ?_
      exact case_33 hp C hnc hns hi1 hi2 hi3 hi4 hi5 Mx Mm hrel next
    by_cases h34 : j = 34
    · subst h34
      refine c_tabIn (pc := 33) (off := 1401) 1434 C.1 dL_law_33 (by decide) (by decide) (by decide +kernel) (by decide) ?_
      exact case_34 hp C hnc hns hi1 hi2 hi3 hi4 hi5 Mx Mm hrel next
    by_cases h35 : j = 35
    · subst h35
      refine c_tabIn (pc := 33) (off := 1424) 1457 C.1 dL_law_33 (by decide) (by decide) (by decide +kernel) (by decide) ?_
      exact case_35 hp C hnc hns hi1 hi2 hi3 hi4 hi5 Mx Mm hrel next
    by_cases h36 : j = 36
    · subst h36
      refine c_tabIn (pc := 33) (off := 1457) 1490 C.1 dL_law_33 (by decide) (by decide) (by decide +kernel) (by decide) ?_
      exact case_36 hp C hnc hns hi1 hi2 hi3 hi4 hi5 Mx Mm hrel next
    by_cases h37 : j = 37
    · subst h37
      refine c_tabIn (pc := 33) (off := 1500) 1533 C.1 dL_law_33 (by decide) (by decide) (by decide +kernel) (by decide) ?_
      exact case_37 hp C hnc hns hi1 hi2 hi3 hi4 hi5 Mx Mm hrel next
    by_cases h38 : j = 38
    · subst h38
      refine c_tabIn (pc := 33) (off := 1573) 1606 C.1 dL_law_33 (by decide) (by decide) (by decide +kernel) (by decide) ?_
      exact case_38 hp C hnc hns hi1 hi2 hi3 hi4 hi5 Mx Mm hrel next
    by_cases h39 : j = 39
    · subst h39
      refine c_tabIn (pc := 33) (off := 1607) 1640 C.1 dL_law_33 (by decide) (by decide) (by decide +kernel) (by decide) ?_
      exact case_39 hp C hnc hns hi1 hi2 hi3 hi4 hi5 Mx Mm hrel next
    by_cases h40 : j = 40
    · subst h40
      refine c_tabIn (pc := 33) (off := 1670) 1703 C.1 dL_law_33 (by decide) (by decide) (by decide +kernel) (by decide) ?_
      exact case_40 hp C hnc hns hi1 hi2 hi3 hi4 hi5 Mx Mm hrel next
    by_cases h41 : j = 41
    · subst h41
      refine c_tabIn (pc := 33) (off := 1723) 1756 C.1 dL_law_33 (by decide) (by decide) (by decide +kernel) (by decide) ?_
      exact case_41 hp C hnc hns hi1 hi2 hi3 hi4 hi5 Mx Mm hrel next
    by_cases h42 : j = 42
    · subst h42
      refine c_tabIn (pc := 33) (off := 1736) 1769 C.1 dL_law_33 (by decide) (by decide) (by decide +kernel) (by decide) ?_
      exact case_42 hp C hnc hns hi1 hi2 hi3 hi4 hi5 Mx Mm hrel next
    refine c_tabOut (pc := 33) 1782 C.1 dL_law_33 (Or.inr ?_) (by decide) (next Mx Mm hrel)
    rw [nI_toInt (by omega)]
    omega
