theorem dL_law_0 : decode cL_law 0 = .ok (.new 7, 3) := by decide +kernel
theorem dL_law_3 : decode cL_law 3 = .ok (.dup, 1) := by decide +kernel
theorem dL_law_4 : decode cL_law 4 = .ok (.invokespecial 9, 3) := by decide +kernel
theorem dL_law_7 : decode cL_law 7 = .ok (.astore_n 1, 1) := by decide +kernel
theorem dL_law_8 : decode cL_law 8 = .ok (.new 10, 3) := by decide +kernel
theorem dL_law_11 : decode cL_law 11 = .ok (.dup, 1) := by decide +kernel
theorem dL_law_12 : decode cL_law 12 = .ok (.invokespecial 12, 3) := by decide +kernel
theorem dL_law_15 : decode cL_law 15 = .ok (.astore_n 2, 1) := by decide +kernel
theorem dL_law_16 : decode cL_law 16 = .ok (.iconst 0, 1) := by decide +kernel
theorem dL_law_17 : decode cL_law 17 = .ok (.istore_n 3, 1) := by decide +kernel
theorem dL_law_18 : decode cL_law 18 = .ok (.iload_n 3, 1) := by decide +kernel
theorem dL_law_19 : decode cL_law 19 = .ok (.aload_n 0, 1) := by decide +kernel
theorem dL_law_20 : decode cL_law 20 = .ok (.arraylength, 1) := by decide +kernel
theorem dL_law_21 : decode cL_law 21 = .ok (.bipush 6, 2) := by decide +kernel
theorem dL_law_23 : decode cL_law 23 = .ok (.isub, 1) := by decide +kernel
theorem dL_law_24 : decode cL_law 24 = .ok (.if_icmp .gt 1764, 3) := by decide +kernel
theorem dL_law_27 : decode cL_law 27 = .ok (.aload_n 0, 1) := by decide +kernel
theorem dL_law_28 : decode cL_law 28 = .ok (.iload_n 3, 1) := by decide +kernel
theorem dL_law_29 : decode cL_law 29 = .ok (.iaload, 1) := by decide +kernel
theorem dL_law_30 : decode cL_law 30 = .ok (.bipush 63, 2) := by decide +kernel
theorem dL_law_32 : decode cL_law 32 = .ok (.iand, 1) := by decide +kernel
theorem dL_law_33 : decode cL_law 33 = .ok (.tableswitch 1749 0 42 #[187, 210, 263, 296, 339, 362, 426, 449, 492, 545, 588, 611, 624, 647, 660, 693, 716, 749, 772, 795, 808, 831, 874, 917, 970, 1023, 1086, 1189, 1232, 1275, 1308, 1342, 1375, 1388, 1401, 1424, 1457, 1500, 1573, 1607, 1670, 1723, 1736], 187) := by decide +kernel
theorem dL_law_1782 : decode cL_law 1782 = .ok (.iinc 3 6, 3) := by decide +kernel
theorem dL_law_1785 : decode cL_law 1785 = .ok (.goto (-1767), 3) := by decide +kernel
theorem dL_law_1788 : decode cL_law 1788 = .ok (.iconst 1, 1) := by decide +kernel
theorem dL_law_1789 : decode cL_law 1789 = .ok (.ireturn, 1) := by decide +kernel
theorem at_I {D : va_G} {cl : List vw_C} {H : Heap} {a n : Nat} {cA : ClassId} {f g : Nat → Int32} (h : va_at D cl (a, .inl (cA, n, .inl f)) H) (hg : ∀ j, j < n → f j = g j) : va_at D cl (a, .inl (cA, n, .inl g)) H := by
  have e : arrV cA n (fun j => Value.int (f j)) = arrV cA n (fun j => Value.int (g j)) := by
    unfold arrV; congr 2; funext j; show _ = _; simp only []; rw [hg j.val j.isLt]
  have h1 : H[a]? = some (arrV cA n (fun j => Value.int (f j))) := h
  show H[a]? = some (arrV cA n (fun j => Value.int (g j)))
  rw [← e]; exact h1
theorem at_J {D : va_G} {cl : List vw_C} {H : Heap} {a n : Nat} {cA : ClassId} {f g : Nat → Int64} (h : va_at D cl (a, .inl (cA, n, .inr (.inl f))) H) (hg : ∀ j, j < n → f j = g j) : va_at D cl (a, .inl (cA, n, .inr (.inl g))) H := by
  have e : arrV cA n (fun j => Value.long (f j)) = arrV cA n (fun j => Value.long (g j)) := by
    unfold arrV; congr 2; funext j; show _ = _; simp only []; rw [hg j.val j.isLt]
  have h1 : H[a]? = some (arrV cA n (fun j => Value.long (f j))) := h
  show H[a]? = some (arrV cA n (fun j => Value.long (g j)))
  rw [← e]; exact h1
theorem at_Q {D : va_G} {cl : List vw_C} {H : Heap} {a n : Nat} {cA : ClassId} {f g : Nat → Option Nat} (h : va_at D cl (a, .inl (cA, n, .inr (.inr (.inr (.inr f))))) H) (hg : ∀ j, j < n → f j = g j) : va_at D cl (a, .inl (cA, n, .inr (.inr (.inr (.inr g))))) H := by
  have e : arrV cA n (fun j => va_rf (f j)) = arrV cA n (fun j => va_rf (g j)) := by
    unfold arrV; congr 2; funext j; show _ = _; simp only []; rw [hg j.val j.isLt]
  have h1 : H[a]? = some (arrV cA n (fun j => va_rf (f j))) := h
  show H[a]? = some (arrV cA n (fun j => va_rf (g j)))
  rw [← e]; exact h1
theorem D_addr {A : Nat → Prop} {ws ws' : va_W} (h : ws.map Prod.fst = ws'.map Prod.fst) (hD : va_D A ws) : va_D A ws' := by
  have key : ∀ (k : Nat) (q : Nat × va_E), ws'[k]? = some q → ∃ q0, ws[k]? = some q0 ∧ q0.1 = q.1 := by
    intro k q hk
    have h1 : (ws'.map Prod.fst)[k]? = some q.1 := by rw [List.getElem?_map, hk]; rfl
    rw [← h, List.getElem?_map] at h1
    cases hw : ws[k]? with
    | none => rw [hw] at h1; cases h1
    | some q0 => rw [hw] at h1; exact ⟨q0, rfl, Option.some.inj h1⟩
  refine ⟨fun i j x y hi hj hxy => ?_, fun k q hk => ?_⟩
  · obtain ⟨x0, h1, h2⟩ := key i x hi
    obtain ⟨y0, h3, h4⟩ := key j y hj
    exact hD.1 i j x0 y0 h1 h3 (h2.trans (hxy.trans h4.symm))
  · obtain ⟨q0, h1, h2⟩ := key k q hk
    rw [← h2]; exact hD.2 k q0 h1
theorem ax_0 {h1 : Nat} {u : List Nat} {adK adV : Nat → Nat} : adF (xsX h1 u) adK adV 0 = h1 := rfl
theorem ax_1 {h1 : Nat} {u : List Nat} {adK adV : Nat → Nat} : adF (xsX h1 u) adK adV 1 = (u.getD 0 0) := rfl
theorem ax_2 {h1 : Nat} {u : List Nat} {adK adV : Nat → Nat} : adF (xsX h1 u) adK adV 2 = (u.getD 1 0) := rfl
theorem ax_3 {h1 : Nat} {u : List Nat} {adK adV : Nat → Nat} : adF (xsX h1 u) adK adV 3 = (u.getD 2 0) := rfl
theorem ax_4 {h1 : Nat} {u : List Nat} {adK adV : Nat → Nat} : adF (xsX h1 u) adK adV 4 = (u.getD 3 0) := rfl
theorem ax_5 {h1 : Nat} {u : List Nat} {adK adV : Nat → Nat} : adF (xsX h1 u) adK adV 5 = (u.getD 4 0) := rfl
theorem ax_6 {h1 : Nat} {u : List Nat} {adK adV : Nat → Nat} : adF (xsX h1 u) adK adV 6 = (u.getD 5 0) := rfl
theorem ax_7 {h1 : Nat} {u : List Nat} {adK adV : Nat → Nat} : adF (xsX h1 u) adK adV 7 = (u.getD 6 0) := rfl
theorem ax_8 {h1 : Nat} {u : List Nat} {adK adV : Nat → Nat} : adF (xsX h1 u) adK adV 8 = (u.getD 7 0) := rfl
theorem ax_9 {h1 : Nat} {u : List Nat} {adK adV : Nat → Nat} : adF (xsX h1 u) adK adV 9 = (u.getD 8 0) := rfl
theorem ax_10 {h1 : Nat} {u : List Nat} {adK adV : Nat → Nat} : adF (xsX h1 u) adK adV 10 = (u.getD 9 0) := rfl
theorem ax_11 {h1 : Nat} {u : List Nat} {adK adV : Nat → Nat} : adF (xsX h1 u) adK adV 11 = (u.getD 10 0) := rfl
theorem ax_12 {h1 : Nat} {u : List Nat} {adK adV : Nat → Nat} : adF (xsX h1 u) adK adV 12 = (u.getD 11 0) := rfl
theorem ax_13 {h1 : Nat} {u : List Nat} {adK adV : Nat → Nat} : adF (xsX h1 u) adK adV 13 = (u.getD 12 0) := rfl
theorem ax_14 {h1 : Nat} {u : List Nat} {adK adV : Nat → Nat} : adF (xsX h1 u) adK adV 14 = (u.getD 13 0) := rfl
theorem ax_15 {h1 : Nat} {u : List Nat} {adK adV : Nat → Nat} : adF (xsX h1 u) adK adV 15 = (u.getD 14 0) := rfl
theorem ax_16 {h1 : Nat} {u : List Nat} {adK adV : Nat → Nat} : adF (xsX h1 u) adK adV 16 = (u.getD 15 0) := rfl
theorem ax_17 {h1 : Nat} {u : List Nat} {adK adV : Nat → Nat} : adF (xsX h1 u) adK adV 17 = (u.getD 16 0) := rfl
theorem ax_18 {h1 : Nat} {u : List Nat} {adK adV : Nat → Nat} : adF (xsX h1 u) adK adV 18 = (u.getD 17 0) := rfl
theorem ax_19 {h1 : Nat} {u : List Nat} {adK adV : Nat → Nat} : adF (xsX h1 u) adK adV 19 = (u.getD 18 0) := rfl
theorem ax_20 {h1 : Nat} {u : List Nat} {adK adV : Nat → Nat} : adF (xsX h1 u) adK adV 20 = (u.getD 19 0) := rfl
theorem ax_21 {h1 : Nat} {u : List Nat} {adK adV : Nat → Nat} : adF (xsX h1 u) adK adV 21 = (u.getD 20 0) := rfl
theorem ax_22 {h1 : Nat} {u : List Nat} {adK adV : Nat → Nat} : adF (xsX h1 u) adK adV 22 = (u.getD 21 0) := rfl
theorem ax_23 {h1 : Nat} {u : List Nat} {adK adV : Nat → Nat} : adF (xsX h1 u) adK adV 23 = (u.getD 22 0) := rfl
theorem ax_24 {h1 : Nat} {u : List Nat} {adK adV : Nat → Nat} : adF (xsX h1 u) adK adV 24 = (u.getD 23 0) := rfl
theorem ax_25 {h1 : Nat} {u : List Nat} {adK adV : Nat → Nat} : adF (xsX h1 u) adK adV 25 = (u.getD 24 0) := rfl
theorem ax_26 {h1 : Nat} {u : List Nat} {adK adV : Nat → Nat} : adF (xsX h1 u) adK adV 26 = (u.getD 25 0) := rfl
theorem ax_27 {h1 : Nat} {u : List Nat} {adK adV : Nat → Nat} : adF (xsX h1 u) adK adV 27 = (u.getD 26 0) := rfl
theorem ax_28 {h1 : Nat} {u : List Nat} {adK adV : Nat → Nat} : adF (xsX h1 u) adK adV 28 = (u.getD 27 0) := rfl
theorem ax_29 {h1 : Nat} {u : List Nat} {adK adV : Nat → Nat} : adF (xsX h1 u) adK adV 29 = (u.getD 28 0) := rfl
theorem ax_30 {h1 : Nat} {u : List Nat} {adK adV : Nat → Nat} : adF (xsX h1 u) adK adV 30 = (u.getD 29 0) := rfl
theorem ax_31 {h1 : Nat} {u : List Nat} {adK adV : Nat → Nat} : adF (xsX h1 u) adK adV 31 = (u.getD 30 0) := rfl
theorem ax_32 {h1 : Nat} {u : List Nat} {adK adV : Nat → Nat} : adF (xsX h1 u) adK adV 32 = (u.getD 31 0) := rfl
theorem ax_33 {h1 : Nat} {u : List Nat} {adK adV : Nat → Nat} : adF (xsX h1 u) adK adV 33 = (u.getD 32 0) := rfl
theorem ax_34 {h1 : Nat} {u : List Nat} {adK adV : Nat → Nat} : adF (xsX h1 u) adK adV 34 = (u.getD 33 0) := rfl
theorem ax_35 {h1 : Nat} {u : List Nat} {adK adV : Nat → Nat} : adF (xsX h1 u) adK adV 35 = (u.getD 34 0) := rfl
theorem ax_36 {h1 : Nat} {u : List Nat} {adK adV : Nat → Nat} : adF (xsX h1 u) adK adV 36 = (u.getD 35 0) := rfl
theorem ax_37 {h1 : Nat} {u : List Nat} {adK adV : Nat → Nat} : adF (xsX h1 u) adK adV 37 = (u.getD 36 0) := rfl
theorem ax_38 {h1 : Nat} {u : List Nat} {adK adV : Nat → Nat} : adF (xsX h1 u) adK adV 38 = (u.getD 37 0) := rfl
theorem ax_39 {h1 : Nat} {u : List Nat} {adK adV : Nat → Nat} : adF (xsX h1 u) adK adV 39 = (u.getD 38 0) := rfl
theorem ax_40 {h1 : Nat} {u : List Nat} {adK adV : Nat → Nat} : adF (xsX h1 u) adK adV 40 = (u.getD 39 0) := rfl
theorem ax_41 {h1 : Nat} {u : List Nat} {adK adV : Nat → Nat} : adF (xsX h1 u) adK adV 41 = (u.getD 40 0) := rfl
theorem ax_42 {h1 : Nat} {u : List Nat} {adK adV : Nat → Nat} : adF (xsX h1 u) adK adV 42 = (u.getD 41 0) := rfl
theorem ax_43 {h1 : Nat} {u : List Nat} {adK adV : Nat → Nat} : adF (xsX h1 u) adK adV 43 = (u.getD 42 0) := rfl
theorem ax_44 {h1 : Nat} {u : List Nat} {adK adV : Nat → Nat} : adF (xsX h1 u) adK adV 44 = (u.getD 43 0) := rfl
theorem ax_45 {h1 : Nat} {u : List Nat} {adK adV : Nat → Nat} : adF (xsX h1 u) adK adV 45 = (u.getD 44 0) := rfl
theorem ax_46 {h1 : Nat} {u : List Nat} {adK adV : Nat → Nat} : adF (xsX h1 u) adK adV 46 = (u.getD 45 0) := rfl
theorem ax_47 {h1 : Nat} {u : List Nat} {adK adV : Nat → Nat} : adF (xsX h1 u) adK adV 47 = (u.getD 46 0) := rfl
theorem am_0 {h2 : Nat} {u2 : List Nat} {adK adV : Nat → Nat} : adF (xsM h2 u2) adK adV 0 = h2 := rfl
theorem am_1 {h2 : Nat} {u2 : List Nat} {adK adV : Nat → Nat} : adF (xsM h2 u2) adK adV 1 = (u2.getD 0 0) := rfl
theorem am_2 {h2 : Nat} {u2 : List Nat} {adK adV : Nat → Nat} : adF (xsM h2 u2) adK adV 2 = (u2.getD 1 0) := rfl
theorem am_3 {h2 : Nat} {u2 : List Nat} {adK adV : Nat → Nat} : adF (xsM h2 u2) adK adV 3 = (u2.getD 2 0) := rfl
theorem am_4 {h2 : Nat} {u2 : List Nat} {adK adV : Nat → Nat} : adF (xsM h2 u2) adK adV 4 = (u2.getD 3 0) := rfl
theorem am_5 {h2 : Nat} {u2 : List Nat} {adK adV : Nat → Nat} : adF (xsM h2 u2) adK adV 5 = (u2.getD 4 0) := rfl
theorem am_6 {h2 : Nat} {u2 : List Nat} {adK adV : Nat → Nat} : adF (xsM h2 u2) adK adV 6 = (u2.getD 5 0) := rfl
theorem am_7 {h2 : Nat} {u2 : List Nat} {adK adV : Nat → Nat} : adF (xsM h2 u2) adK adV 7 = (u2.getD 6 0) := rfl
theorem am_8 {h2 : Nat} {u2 : List Nat} {adK adV : Nat → Nat} : adF (xsM h2 u2) adK adV 8 = (u2.getD 7 0) := rfl
theorem am_9 {h2 : Nat} {u2 : List Nat} {adK adV : Nat → Nat} : adF (xsM h2 u2) adK adV 9 = (u2.getD 8 0) := rfl
theorem am_10 {h2 : Nat} {u2 : List Nat} {adK adV : Nat → Nat} : adF (xsM h2 u2) adK adV 10 = (u2.getD 9 0) := rfl
theorem am_11 {h2 : Nat} {u2 : List Nat} {adK adV : Nat → Nat} : adF (xsM h2 u2) adK adV 11 = (u2.getD 10 0) := rfl
theorem am_12 {h2 : Nat} {u2 : List Nat} {adK adV : Nat → Nat} : adF (xsM h2 u2) adK adV 12 = (u2.getD 11 0) := rfl
theorem am_13 {h2 : Nat} {u2 : List Nat} {adK adV : Nat → Nat} : adF (xsM h2 u2) adK adV 13 = (u2.getD 12 0) := rfl
theorem am_14 {h2 : Nat} {u2 : List Nat} {adK adV : Nat → Nat} : adF (xsM h2 u2) adK adV 14 = (u2.getD 13 0) := rfl
theorem am_15 {h2 : Nat} {u2 : List Nat} {adK adV : Nat → Nat} : adF (xsM h2 u2) adK adV 15 = (u2.getD 14 0) := rfl
theorem am_16 {h2 : Nat} {u2 : List Nat} {adK adV : Nat → Nat} : adF (xsM h2 u2) adK adV 16 = (u2.getD 15 0) := rfl
theorem am_17 {h2 : Nat} {u2 : List Nat} {adK adV : Nat → Nat} : adF (xsM h2 u2) adK adV 17 = (u2.getD 16 0) := rfl
theorem am_18 {h2 : Nat} {u2 : List Nat} {adK adV : Nat → Nat} : adF (xsM h2 u2) adK adV 18 = (u2.getD 17 0) := rfl
theorem am_19 {h2 : Nat} {u2 : List Nat} {adK adV : Nat → Nat} : adF (xsM h2 u2) adK adV 19 = (u2.getD 18 0) := rfl
theorem am_20 {h2 : Nat} {u2 : List Nat} {adK adV : Nat → Nat} : adF (xsM h2 u2) adK adV 20 = (u2.getD 19 0) := rfl
theorem am_21 {h2 : Nat} {u2 : List Nat} {adK adV : Nat → Nat} : adF (xsM h2 u2) adK adV 21 = (u2.getD 20 0) := rfl
theorem am_22 {h2 : Nat} {u2 : List Nat} {adK adV : Nat → Nat} : adF (xsM h2 u2) adK adV 22 = (u2.getD 21 0) := rfl
theorem am_23 {h2 : Nat} {u2 : List Nat} {adK adV : Nat → Nat} : adF (xsM h2 u2) adK adV 23 = (u2.getD 22 0) := rfl
theorem am_24 {h2 : Nat} {u2 : List Nat} {adK adV : Nat → Nat} : adF (xsM h2 u2) adK adV 24 = (u2.getD 23 0) := rfl
theorem am_25 {h2 : Nat} {u2 : List Nat} {adK adV : Nat → Nat} : adF (xsM h2 u2) adK adV 25 = (u2.getD 24 0) := rfl
theorem wl_fst (tab : List Ds) (ac : Nat → ClassId) (ad : Nat → Nat) (rest : va_W) (M : Mem) : (wl tab ac ad rest M).map Prod.fst = (List.range tab.length).map ad ++ rest.map Prod.fst := by
  unfold wl
  rw [List.map_append]
  congr 1
  apply List.ext_getElem?
  intro i
  rw [List.getElem?_map, List.getElem?_mapIdx, List.getElem?_map]
  by_cases h : i < tab.length
  · rw [List.getElem?_eq_getElem h, List.getElem?_range h]; rfl
  · rw [List.getElem?_eq_none (by omega), List.getElem?_eq_none (by rw [List.length_range]; omega)]; rfl
theorem wl_P {D : va_G} {cl : List vw_C} {tab : List Ds} {ac : Nat → ClassId} {ad : Nat → Nat} {rest : va_W} {M : Mem} {H : Heap} (h : ∀ k d, tab[k]? = some d → va_at D cl (ad k, mkc ac ad M k d) H) (hr : va_P D cl rest H) : va_P D cl (wl tab ac ad rest M) H := by
  refine va_P.app (fun k q hq => ?_) hr
  rw [List.getElem?_mapIdx] at hq
  cases hk : tab[k]? with
  | none => rw [hk] at hq; cases hq
  | some d => rw [hk] at hq; cases hq; exact h k d hk
set_option maxRecDepth 100000 in
theorem obX_0 {ac : Nat → ClassId} {ad : Nat → Nat} {M : Mem} : mkc ac ad M 0 (.inl (7, [some (some 1), some (some 7), some (some 13), none, some (some 19), some (some 26), some (some 31), some (some 33), some (some 34), some (some 39)])) = .inr (7, [.ref (ad 1), .ref (ad 7), .ref (ad 13), .int (M.1 0 3), .ref (ad 19), .ref (ad 26), .ref (ad 31), .ref (ad 33), .ref (ad 34), .ref (ad 39)]) := rfl
set_option maxRecDepth 100000 in
theorem obX_1 {ac : Nat → ClassId} {ad : Nat → Nat} {M : Mem} : mkc ac ad M 1 (.inl (1, [none, none, none, some (some 2), some (some 3), some (some 4), some (some 5), some (some 6)])) = .inr (1, [.int (M.1 1 0), .int (M.1 1 1), .int (M.1 1 2), .ref (ad 2), .ref (ad 3), .ref (ad 4), .ref (ad 5), .ref (ad 6)]) := rfl
set_option maxRecDepth 100000 in
theorem obX_7 {ac : Nat → ClassId} {ad : Nat → Nat} {M : Mem} : mkc ac ad M 7 (.inl (1, [none, none, none, some (some 8), some (some 9), some (some 10), some (some 11), some (some 12)])) = .inr (1, [.int (M.1 7 0), .int (M.1 7 1), .int (M.1 7 2), .ref (ad 8), .ref (ad 9), .ref (ad 10), .ref (ad 11), .ref (ad 12)]) := rfl
set_option maxRecDepth 100000 in
theorem obX_13 {ac : Nat → ClassId} {ad : Nat → Nat} {M : Mem} : mkc ac ad M 13 (.inl (1, [none, none, none, some (some 14), some (some 15), some (some 16), some (some 17), some (some 18)])) = .inr (1, [.int (M.1 13 0), .int (M.1 13 1), .int (M.1 13 2), .ref (ad 14), .ref (ad 15), .ref (ad 16), .ref (ad 17), .ref (ad 18)]) := rfl
set_option maxRecDepth 100000 in
theorem obX_19 {ac : Nat → ClassId} {ad : Nat → Nat} {M : Mem} : mkc ac ad M 19 (.inl (4, [none, some (some 20), some (some 21), none, none, none, none, none, some (some 22), some (some 23), some (some 24), some (some 25)])) = .inr (4, [.int (M.1 19 0), .ref (ad 20), .ref (ad 21), .int (M.1 19 3), .int (M.1 19 4), .int (M.1 19 5), .int (M.1 19 6), .int (M.1 19 7), .ref (ad 22), .ref (ad 23), .ref (ad 24), .ref (ad 25)]) := rfl
set_option maxRecDepth 100000 in
theorem obX_26 {ac : Nat → ClassId} {ad : Nat → Nat} {M : Mem} : mkc ac ad M 26 (.inl (2, [some (some 27), none, none, none, some (some 28), some (some 29), some (some 30)])) = .inr (2, [.ref (ad 27), .int (M.1 26 1), .int (M.1 26 2), .int (M.1 26 3), .ref (ad 28), .ref (ad 29), .ref (ad 30)]) := rfl
set_option maxRecDepth 100000 in
theorem obX_31 {ac : Nat → ClassId} {ad : Nat → Nat} {M : Mem} : mkc ac ad M 31 (.inl (6, [none, some (some 32), none, none, none, none])) = .inr (6, [.int (M.1 31 0), .ref (ad 32), .int (M.1 31 2), .int (M.1 31 3), .int (M.1 31 4), .int (M.1 31 5)]) := rfl
set_option maxRecDepth 100000 in
theorem obX_33 {ac : Nat → ClassId} {ad : Nat → Nat} {M : Mem} : mkc ac ad M 33 (.inl (3, [none])) = .inr (3, [.int (M.1 33 0)]) := rfl
set_option maxRecDepth 100000 in
theorem obX_35 {ac : Nat → ClassId} {ad : Nat → Nat} {M : Mem} : mkc ac ad M 35 (.inl (0, [none, some none, some none, none, none, none, some none])) = .inr (0, [.int (M.1 35 0), .long (M.2 35 1), .long (M.2 35 2), .int (M.1 35 3), .int (M.1 35 4), .int (M.1 35 5), .long (M.2 35 6)]) := rfl
set_option maxRecDepth 100000 in
theorem obX_36 {ac : Nat → ClassId} {ad : Nat → Nat} {M : Mem} : mkc ac ad M 36 (.inl (0, [none, some none, some none, none, none, none, some none])) = .inr (0, [.int (M.1 36 0), .long (M.2 36 1), .long (M.2 36 2), .int (M.1 36 3), .int (M.1 36 4), .int (M.1 36 5), .long (M.2 36 6)]) := rfl
set_option maxRecDepth 100000 in
theorem obX_37 {ac : Nat → ClassId} {ad : Nat → Nat} {M : Mem} : mkc ac ad M 37 (.inl (0, [none, some none, some none, none, none, none, some none])) = .inr (0, [.int (M.1 37 0), .long (M.2 37 1), .long (M.2 37 2), .int (M.1 37 3), .int (M.1 37 4), .int (M.1 37 5), .long (M.2 37 6)]) := rfl
set_option maxRecDepth 100000 in
theorem obX_38 {ac : Nat → ClassId} {ad : Nat → Nat} {M : Mem} : mkc ac ad M 38 (.inl (0, [none, some none, some none, none, none, none, some none])) = .inr (0, [.int (M.1 38 0), .long (M.2 38 1), .long (M.2 38 2), .int (M.1 38 3), .int (M.1 38 4), .int (M.1 38 5), .long (M.2 38 6)]) := rfl
set_option maxRecDepth 100000 in
theorem obX_40 {ac : Nat → ClassId} {ad : Nat → Nat} {M : Mem} : mkc ac ad M 40 (.inl (5, [none, none, some (some 41)])) = .inr (5, [.int (M.1 40 0), .int (M.1 40 1), .ref (ad 41)]) := rfl
set_option maxRecDepth 100000 in
theorem obX_42 {ac : Nat → ClassId} {ad : Nat → Nat} {M : Mem} : mkc ac ad M 42 (.inl (5, [none, none, some (some 43)])) = .inr (5, [.int (M.1 42 0), .int (M.1 42 1), .ref (ad 43)]) := rfl
set_option maxRecDepth 100000 in
theorem obX_44 {ac : Nat → ClassId} {ad : Nat → Nat} {M : Mem} : mkc ac ad M 44 (.inl (5, [none, none, some (some 45)])) = .inr (5, [.int (M.1 44 0), .int (M.1 44 1), .ref (ad 45)]) := rfl
set_option maxRecDepth 100000 in
theorem obX_46 {ac : Nat → ClassId} {ad : Nat → Nat} {M : Mem} : mkc ac ad M 46 (.inl (5, [none, none, some (some 47)])) = .inr (5, [.int (M.1 46 0), .int (M.1 46 1), .ref (ad 47)]) := rfl
set_option maxRecDepth 100000 in
theorem obM_0 {ac : Nat → ClassId} {ad : Nat → Nat} {M : Mem} : mkc ac ad M 0 (.inl (8, [none, none, none, some (some 1), some (some 2), some (some 3), some (some 4), some (some 5), none, none, some (some 6), some (some 7), none, none, some (some 8), some (some 9), some (some 10), none, none, none, none, none, some (some 11), some (some 12), some (some 13), some (some 14), some (some 15), some (some 16), some (some 17), none, some (some 18), none, none, none, none, none, some (some 19), some (some 20), some (some 21), some (some 22), some (some 23), some (some 24), some (some 25), none])) = .inr (8, [.int (M.1 0 0), .int (M.1 0 1), .int (M.1 0 2), .ref (ad 1), .ref (ad 2), .ref (ad 3), .ref (ad 4), .ref (ad 5), .int (M.1 0 8), .int (M.1 0 9), .ref (ad 6), .ref (ad 7), .int (M.1 0 12), .int (M.1 0 13), .ref (ad 8), .ref (ad 9), .ref (ad 10), .int (M.1 0 17), .int (M.1 0 18), .int (M.1 0 19), .int (M.1 0 20), .int (M.1 0 21), .ref (ad 11), .ref (ad 12), .ref (ad 13), .ref (ad 14), .ref (ad 15), .ref (ad 16), .ref (ad 17), .int (M.1 0 29), .ref (ad 18), .int (M.1 0 31), .int (M.1 0 32), .int (M.1 0 33), .int (M.1 0 34), .int (M.1 0 35), .ref (ad 19), .ref (ad 20), .ref (ad 21), .ref (ad 22), .ref (ad 23), .ref (ad 24), .ref (ad 25), .int (M.1 0 43)]) := by simp [mkc, List.mapIdx_cons, fvl]
set_option maxRecDepth 100000 in
set_option maxHeartbeats 2000000 in
theorem at0X_0 {D : va_G} {ac : Nat → ClassId} {h1 h2 : Nat} {u u2 : List Nat} {adK adV : Nat → Nat} {H : Heap} (h : va_P D classes (nw_X8 ac h2 (nw_X7 ac h1 [] u) u2) H) : va_at D classes (adF (xsX h1 u) adK adV 0, mkc ac (adF (xsX h1 u) adK adV) M0X 0 (.inl (7, [some (some 1), some (some 7), some (some 13), none, some (some 19), some (some 26), some (some 31), some (some 33), some (some 34), some (some 39)]))) H := by
  rw [obX_0, ax_0, ax_1, ax_7, ax_13, ax_19, ax_26, ax_31, ax_33, ax_34, ax_39]; exact h 73 _ rfl
set_option maxRecDepth 100000 in
set_option maxHeartbeats 2000000 in
theorem at0X_1 {D : va_G} {ac : Nat → ClassId} {h1 h2 : Nat} {u u2 : List Nat} {adK adV : Nat → Nat} {H : Heap} (h : va_P D classes (nw_X8 ac h2 (nw_X7 ac h1 [] u) u2) H) : va_at D classes (adF (xsX h1 u) adK adV 1, mkc ac (adF (xsX h1 u) adK adV) M0X 1 (.inl (1, [none, none, none, some (some 2), some (some 3), some (some 4), some (some 5), some (some 6)]))) H := by
  rw [obX_1, ax_1, ax_2, ax_3, ax_4, ax_5, ax_6]; exact h 72 _ rfl
set_option maxRecDepth 100000 in
set_option maxHeartbeats 2000000 in
theorem at0X_2 {D : va_G} {ac : Nat → ClassId} {h1 h2 : Nat} {u u2 : List Nat} {adK adV : Nat → Nat} {H : Heap} (h : va_P D classes (nw_X8 ac h2 (nw_X7 ac h1 [] u) u2) H) : va_at D classes (adF (xsX h1 u) adK adV 2, mkc ac (adF (xsX h1 u) adK adV) M0X 2 (.inr (0, 10, none))) H := by
  rw [ax_2]; exact at_I (f := _) (h 71 _ rfl) (fun j _ => by simp [M0X])
set_option maxRecDepth 100000 in
set_option maxHeartbeats 2000000 in
theorem at0X_3 {D : va_G} {ac : Nat → ClassId} {h1 h2 : Nat} {u u2 : List Nat} {adK adV : Nat → Nat} {H : Heap} (h : va_P D classes (nw_X8 ac h2 (nw_X7 ac h1 [] u) u2) H) : va_at D classes (adF (xsX h1 u) adK adV 3, mkc ac (adF (xsX h1 u) adK adV) M0X 3 (.inr (0, 10, none))) H := by
  rw [ax_3]; exact at_I (f := _) (h 70 _ rfl) (fun j _ => by simp [M0X])
set_option maxRecDepth 100000 in
set_option maxHeartbeats 2000000 in
theorem at0X_4 {D : va_G} {ac : Nat → ClassId} {h1 h2 : Nat} {u u2 : List Nat} {adK adV : Nat → Nat} {H : Heap} (h : va_P D classes (nw_X8 ac h2 (nw_X7 ac h1 [] u) u2) H) : va_at D classes (adF (xsX h1 u) adK adV 4, mkc ac (adF (xsX h1 u) adK adV) M0X 4 (.inr (0, 10, none))) H := by
  rw [ax_4]; exact at_I (f := _) (h 69 _ rfl) (fun j _ => by simp [M0X])
set_option maxRecDepth 100000 in
set_option maxHeartbeats 2000000 in
theorem at0X_5 {D : va_G} {ac : Nat → ClassId} {h1 h2 : Nat} {u u2 : List Nat} {adK adV : Nat → Nat} {H : Heap} (h : va_P D classes (nw_X8 ac h2 (nw_X7 ac h1 [] u) u2) H) : va_at D classes (adF (xsX h1 u) adK adV 5, mkc ac (adF (xsX h1 u) adK adV) M0X 5 (.inr (0, 10, none))) H := by
  rw [ax_5]; exact at_I (f := _) (h 68 _ rfl) (fun j _ => by simp [M0X])
set_option maxRecDepth 100000 in
set_option maxHeartbeats 2000000 in
theorem at0X_6 {D : va_G} {ac : Nat → ClassId} {h1 h2 : Nat} {u u2 : List Nat} {adK adV : Nat → Nat} {H : Heap} (h : va_P D classes (nw_X8 ac h2 (nw_X7 ac h1 [] u) u2) H) : va_at D classes (adF (xsX h1 u) adK adV 6, mkc ac (adF (xsX h1 u) adK adV) M0X 6 (.inr (1, 6, some none))) H := by
  rw [ax_6]; exact at_J (f := _) (h 67 _ rfl) (fun j _ => by simp [M0X])
set_option maxRecDepth 100000 in
set_option maxHeartbeats 2000000 in
theorem at0X_7 {D : va_G} {ac : Nat → ClassId} {h1 h2 : Nat} {u u2 : List Nat} {adK adV : Nat → Nat} {H : Heap} (h : va_P D classes (nw_X8 ac h2 (nw_X7 ac h1 [] u) u2) H) : va_at D classes (adF (xsX h1 u) adK adV 7, mkc ac (adF (xsX h1 u) adK adV) M0X 7 (.inl (1, [none, none, none, some (some 8), some (some 9), some (some 10), some (some 11), some (some 12)]))) H := by
  rw [obX_7, ax_7, ax_8, ax_9, ax_10, ax_11, ax_12]; exact h 66 _ rfl
set_option maxRecDepth 100000 in
set_option maxHeartbeats 2000000 in
theorem at0X_8 {D : va_G} {ac : Nat → ClassId} {h1 h2 : Nat} {u u2 : List Nat} {adK adV : Nat → Nat} {H : Heap} (h : va_P D classes (nw_X8 ac h2 (nw_X7 ac h1 [] u) u2) H) : va_at D classes (adF (xsX h1 u) adK adV 8, mkc ac (adF (xsX h1 u) adK adV) M0X 8 (.inr (0, 10, none))) H := by
  rw [ax_8]; exact at_I (f := _) (h 65 _ rfl) (fun j _ => by simp [M0X])
set_option maxRecDepth 100000 in
set_option maxHeartbeats 2000000 in
theorem at0X_9 {D : va_G} {ac : Nat → ClassId} {h1 h2 : Nat} {u u2 : List Nat} {adK adV : Nat → Nat} {H : Heap} (h : va_P D classes (nw_X8 ac h2 (nw_X7 ac h1 [] u) u2) H) : va_at D classes (adF (xsX h1 u) adK adV 9, mkc ac (adF (xsX h1 u) adK adV) M0X 9 (.inr (0, 10, none))) H := by
  rw [ax_9]; exact at_I (f := _) (h 64 _ rfl) (fun j _ => by simp [M0X])
set_option maxRecDepth 100000 in
set_option maxHeartbeats 2000000 in
theorem at0X_10 {D : va_G} {ac : Nat → ClassId} {h1 h2 : Nat} {u u2 : List Nat} {adK adV : Nat → Nat} {H : Heap} (h : va_P D classes (nw_X8 ac h2 (nw_X7 ac h1 [] u) u2) H) : va_at D classes (adF (xsX h1 u) adK adV 10, mkc ac (adF (xsX h1 u) adK adV) M0X 10 (.inr (0, 10, none))) H := by
  rw [ax_10]; exact at_I (f := _) (h 63 _ rfl) (fun j _ => by simp [M0X])
set_option maxRecDepth 100000 in
set_option maxHeartbeats 2000000 in
theorem at0X_11 {D : va_G} {ac : Nat → ClassId} {h1 h2 : Nat} {u u2 : List Nat} {adK adV : Nat → Nat} {H : Heap} (h : va_P D classes (nw_X8 ac h2 (nw_X7 ac h1 [] u) u2) H) : va_at D classes (adF (xsX h1 u) adK adV 11, mkc ac (adF (xsX h1 u) adK adV) M0X 11 (.inr (0, 10, none))) H := by
  rw [ax_11]; exact at_I (f := _) (h 62 _ rfl) (fun j _ => by simp [M0X])
set_option maxRecDepth 100000 in
set_option maxHeartbeats 2000000 in
theorem at0X_12 {D : va_G} {ac : Nat → ClassId} {h1 h2 : Nat} {u u2 : List Nat} {adK adV : Nat → Nat} {H : Heap} (h : va_P D classes (nw_X8 ac h2 (nw_X7 ac h1 [] u) u2) H) : va_at D classes (adF (xsX h1 u) adK adV 12, mkc ac (adF (xsX h1 u) adK adV) M0X 12 (.inr (1, 6, some none))) H := by
  rw [ax_12]; exact at_J (f := _) (h 61 _ rfl) (fun j _ => by simp [M0X])
set_option maxRecDepth 100000 in
set_option maxHeartbeats 2000000 in
theorem at0X_13 {D : va_G} {ac : Nat → ClassId} {h1 h2 : Nat} {u u2 : List Nat} {adK adV : Nat → Nat} {H : Heap} (h : va_P D classes (nw_X8 ac h2 (nw_X7 ac h1 [] u) u2) H) : va_at D classes (adF (xsX h1 u) adK adV 13, mkc ac (adF (xsX h1 u) adK adV) M0X 13 (.inl (1, [none, none, none, some (some 14), some (some 15), some (some 16), some (some 17), some (some 18)]))) H := by
  rw [obX_13, ax_13, ax_14, ax_15, ax_16, ax_17, ax_18]; exact h 60 _ rfl
set_option maxRecDepth 100000 in
set_option maxHeartbeats 2000000 in
theorem at0X_14 {D : va_G} {ac : Nat → ClassId} {h1 h2 : Nat} {u u2 : List Nat} {adK adV : Nat → Nat} {H : Heap} (h : va_P D classes (nw_X8 ac h2 (nw_X7 ac h1 [] u) u2) H) : va_at D classes (adF (xsX h1 u) adK adV 14, mkc ac (adF (xsX h1 u) adK adV) M0X 14 (.inr (0, 10, none))) H := by
  rw [ax_14]; exact at_I (f := _) (h 59 _ rfl) (fun j _ => by simp [M0X])
set_option maxRecDepth 100000 in
set_option maxHeartbeats 2000000 in
theorem at0X_15 {D : va_G} {ac : Nat → ClassId} {h1 h2 : Nat} {u u2 : List Nat} {adK adV : Nat → Nat} {H : Heap} (h : va_P D classes (nw_X8 ac h2 (nw_X7 ac h1 [] u) u2) H) : va_at D classes (adF (xsX h1 u) adK adV 15, mkc ac (adF (xsX h1 u) adK adV) M0X 15 (.inr (0, 10, none))) H := by
  rw [ax_15]; exact at_I (f := _) (h 58 _ rfl) (fun j _ => by simp [M0X])
set_option maxRecDepth 100000 in
set_option maxHeartbeats 2000000 in
theorem at0X_16 {D : va_G} {ac : Nat → ClassId} {h1 h2 : Nat} {u u2 : List Nat} {adK adV : Nat → Nat} {H : Heap} (h : va_P D classes (nw_X8 ac h2 (nw_X7 ac h1 [] u) u2) H) : va_at D classes (adF (xsX h1 u) adK adV 16, mkc ac (adF (xsX h1 u) adK adV) M0X 16 (.inr (0, 10, none))) H := by
  rw [ax_16]; exact at_I (f := _) (h 57 _ rfl) (fun j _ => by simp [M0X])
set_option maxRecDepth 100000 in
set_option maxHeartbeats 2000000 in
theorem at0X_17 {D : va_G} {ac : Nat → ClassId} {h1 h2 : Nat} {u u2 : List Nat} {adK adV : Nat → Nat} {H : Heap} (h : va_P D classes (nw_X8 ac h2 (nw_X7 ac h1 [] u) u2) H) : va_at D classes (adF (xsX h1 u) adK adV 17, mkc ac (adF (xsX h1 u) adK adV) M0X 17 (.inr (0, 10, none))) H := by
  rw [ax_17]; exact at_I (f := _) (h 56 _ rfl) (fun j _ => by simp [M0X])
set_option maxRecDepth 100000 in
set_option maxHeartbeats 2000000 in
theorem at0X_18 {D : va_G} {ac : Nat → ClassId} {h1 h2 : Nat} {u u2 : List Nat} {adK adV : Nat → Nat} {H : Heap} (h : va_P D classes (nw_X8 ac h2 (nw_X7 ac h1 [] u) u2) H) : va_at D classes (adF (xsX h1 u) adK adV 18, mkc ac (adF (xsX h1 u) adK adV) M0X 18 (.inr (1, 6, some none))) H := by
  rw [ax_18]; exact at_J (f := _) (h 55 _ rfl) (fun j _ => by simp [M0X])
set_option maxRecDepth 100000 in
set_option maxHeartbeats 2000000 in
theorem at0X_19 {D : va_G} {ac : Nat → ClassId} {h1 h2 : Nat} {u u2 : List Nat} {adK adV : Nat → Nat} {H : Heap} (h : va_P D classes (nw_X8 ac h2 (nw_X7 ac h1 [] u) u2) H) : va_at D classes (adF (xsX h1 u) adK adV 19, mkc ac (adF (xsX h1 u) adK adV) M0X 19 (.inl (4, [none, some (some 20), some (some 21), none, none, none, none, none, some (some 22), some (some 23), some (some 24), some (some 25)]))) H := by
  rw [obX_19, ax_19, ax_20, ax_21, ax_22, ax_23, ax_24, ax_25]; exact h 54 _ rfl
set_option maxRecDepth 100000 in
set_option maxHeartbeats 2000000 in
theorem at0X_20 {D : va_G} {ac : Nat → ClassId} {h1 h2 : Nat} {u u2 : List Nat} {adK adV : Nat → Nat} {H : Heap} (h : va_P D classes (nw_X8 ac h2 (nw_X7 ac h1 [] u) u2) H) : va_at D classes (adF (xsX h1 u) adK adV 20, mkc ac (adF (xsX h1 u) adK adV) M0X 20 (.inr (0, 64, none))) H := by
  rw [ax_20]; exact at_I (f := _) (h 53 _ rfl) (fun j _ => by simp [M0X])
set_option maxRecDepth 100000 in
set_option maxHeartbeats 2000000 in
theorem at0X_21 {D : va_G} {ac : Nat → ClassId} {h1 h2 : Nat} {u u2 : List Nat} {adK adV : Nat → Nat} {H : Heap} (h : va_P D classes (nw_X8 ac h2 (nw_X7 ac h1 [] u) u2) H) : va_at D classes (adF (xsX h1 u) adK adV 21, mkc ac (adF (xsX h1 u) adK adV) M0X 21 (.inr (0, 64, none))) H := by
  rw [ax_21]; exact at_I (f := _) (h 52 _ rfl) (fun j _ => by simp [M0X])
set_option maxRecDepth 100000 in
set_option maxHeartbeats 2000000 in
theorem at0X_22 {D : va_G} {ac : Nat → ClassId} {h1 h2 : Nat} {u u2 : List Nat} {adK adV : Nat → Nat} {H : Heap} (h : va_P D classes (nw_X8 ac h2 (nw_X7 ac h1 [] u) u2) H) : va_at D classes (adF (xsX h1 u) adK adV 22, mkc ac (adF (xsX h1 u) adK adV) M0X 22 (.inr (0, 6, none))) H := by
  rw [ax_22]; exact at_I (f := _) (h 51 _ rfl) (fun j _ => by simp [M0X])
set_option maxRecDepth 100000 in
set_option maxHeartbeats 2000000 in
theorem at0X_23 {D : va_G} {ac : Nat → ClassId} {h1 h2 : Nat} {u u2 : List Nat} {adK adV : Nat → Nat} {H : Heap} (h : va_P D classes (nw_X8 ac h2 (nw_X7 ac h1 [] u) u2) H) : va_at D classes (adF (xsX h1 u) adK adV 23, mkc ac (adF (xsX h1 u) adK adV) M0X 23 (.inr (0, 64, none))) H := by
  rw [ax_23]; exact at_I (f := _) (h 50 _ rfl) (fun j _ => by simp [M0X])
set_option maxRecDepth 100000 in
set_option maxHeartbeats 2000000 in
theorem at0X_24 {D : va_G} {ac : Nat → ClassId} {h1 h2 : Nat} {u u2 : List Nat} {adK adV : Nat → Nat} {H : Heap} (h : va_P D classes (nw_X8 ac h2 (nw_X7 ac h1 [] u) u2) H) : va_at D classes (adF (xsX h1 u) adK adV 24, mkc ac (adF (xsX h1 u) adK adV) M0X 24 (.inr (0, 64, none))) H := by
  rw [ax_24]; exact at_I (f := _) (h 49 _ rfl) (fun j _ => by simp [M0X])
set_option maxRecDepth 100000 in
set_option maxHeartbeats 2000000 in
theorem at0X_25 {D : va_G} {ac : Nat → ClassId} {h1 h2 : Nat} {u u2 : List Nat} {adK adV : Nat → Nat} {H : Heap} (h : va_P D classes (nw_X8 ac h2 (nw_X7 ac h1 [] u) u2) H) : va_at D classes (adF (xsX h1 u) adK adV 25, mkc ac (adF (xsX h1 u) adK adV) M0X 25 (.inr (0, 1024, none))) H := by
  rw [ax_25]; exact at_I (f := _) (h 48 _ rfl) (fun j _ => by simp [M0X])
set_option maxRecDepth 100000 in
set_option maxHeartbeats 2000000 in
theorem at0X_26 {D : va_G} {ac : Nat → ClassId} {h1 h2 : Nat} {u u2 : List Nat} {adK adV : Nat → Nat} {H : Heap} (h : va_P D classes (nw_X8 ac h2 (nw_X7 ac h1 [] u) u2) H) : va_at D classes (adF (xsX h1 u) adK adV 26, mkc ac (adF (xsX h1 u) adK adV) M0X 26 (.inl (2, [some (some 27), none, none, none, some (some 28), some (some 29), some (some 30)]))) H := by
  rw [obX_26, ax_26, ax_27, ax_28, ax_29, ax_30]; exact h 47 _ rfl
set_option maxRecDepth 100000 in
set_option maxHeartbeats 2000000 in
theorem at0X_27 {D : va_G} {ac : Nat → ClassId} {h1 h2 : Nat} {u u2 : List Nat} {adK adV : Nat → Nat} {H : Heap} (h : va_P D classes (nw_X8 ac h2 (nw_X7 ac h1 [] u) u2) H) : va_at D classes (adF (xsX h1 u) adK adV 27, mkc ac (adF (xsX h1 u) adK adV) M0X 27 (.inr (0, 6, none))) H := by
  rw [ax_27]; exact at_I (f := _) (h 46 _ rfl) (fun j _ => by simp [M0X])
set_option maxRecDepth 100000 in
set_option maxHeartbeats 2000000 in
theorem at0X_28 {D : va_G} {ac : Nat → ClassId} {h1 h2 : Nat} {u u2 : List Nat} {adK adV : Nat → Nat} {H : Heap} (h : va_P D classes (nw_X8 ac h2 (nw_X7 ac h1 [] u) u2) H) : va_at D classes (adF (xsX h1 u) adK adV 28, mkc ac (adF (xsX h1 u) adK adV) M0X 28 (.inr (0, 6, none))) H := by
  rw [ax_28]; exact at_I (f := _) (h 45 _ rfl) (fun j _ => by simp [M0X])
set_option maxRecDepth 100000 in
set_option maxHeartbeats 2000000 in
theorem at0X_29 {D : va_G} {ac : Nat → ClassId} {h1 h2 : Nat} {u u2 : List Nat} {adK adV : Nat → Nat} {H : Heap} (h : va_P D classes (nw_X8 ac h2 (nw_X7 ac h1 [] u) u2) H) : va_at D classes (adF (xsX h1 u) adK adV 29, mkc ac (adF (xsX h1 u) adK adV) M0X 29 (.inr (0, 10, none))) H := by
  rw [ax_29]; exact at_I (f := _) (h 44 _ rfl) (fun j _ => by simp [M0X])
set_option maxRecDepth 100000 in
set_option maxHeartbeats 2000000 in
theorem at0X_30 {D : va_G} {ac : Nat → ClassId} {h1 h2 : Nat} {u u2 : List Nat} {adK adV : Nat → Nat} {H : Heap} (h : va_P D classes (nw_X8 ac h2 (nw_X7 ac h1 [] u) u2) H) : va_at D classes (adF (xsX h1 u) adK adV 30, mkc ac (adF (xsX h1 u) adK adV) M0X 30 (.inr (1, 6, some none))) H := by
  rw [ax_30]; exact at_J (f := _) (h 43 _ rfl) (fun j _ => by simp [M0X])
set_option maxRecDepth 100000 in
set_option maxHeartbeats 2000000 in
theorem at0X_31 {D : va_G} {ac : Nat → ClassId} {h1 h2 : Nat} {u u2 : List Nat} {adK adV : Nat → Nat} {H : Heap} (h : va_P D classes (nw_X8 ac h2 (nw_X7 ac h1 [] u) u2) H) : va_at D classes (adF (xsX h1 u) adK adV 31, mkc ac (adF (xsX h1 u) adK adV) M0X 31 (.inl (6, [none, some (some 32), none, none, none, none]))) H := by
  rw [obX_31, ax_31, ax_32]; exact h 42 _ rfl
set_option maxRecDepth 100000 in
set_option maxHeartbeats 2000000 in
theorem at0X_32 {D : va_G} {ac : Nat → ClassId} {h1 h2 : Nat} {u u2 : List Nat} {adK adV : Nat → Nat} {H : Heap} (h : va_P D classes (nw_X8 ac h2 (nw_X7 ac h1 [] u) u2) H) : va_at D classes (adF (xsX h1 u) adK adV 32, mkc ac (adF (xsX h1 u) adK adV) M0X 32 (.inr (0, 120, none))) H := by
  rw [ax_32]; exact at_I (f := _) (h 41 _ rfl) (fun j _ => by simp [M0X])
set_option maxRecDepth 100000 in
set_option maxHeartbeats 2000000 in
theorem at0X_33 {D : va_G} {ac : Nat → ClassId} {h1 h2 : Nat} {u u2 : List Nat} {adK adV : Nat → Nat} {H : Heap} (h : va_P D classes (nw_X8 ac h2 (nw_X7 ac h1 [] u) u2) H) : va_at D classes (adF (xsX h1 u) adK adV 33, mkc ac (adF (xsX h1 u) adK adV) M0X 33 (.inl (3, [none]))) H := by
  rw [obX_33, ax_33]; exact h 40 _ rfl
set_option maxRecDepth 100000 in
set_option maxHeartbeats 2000000 in
theorem at0X_34 {D : va_G} {ac : Nat → ClassId} {h1 h2 : Nat} {u u2 : List Nat} {adK adV : Nat → Nat} {H : Heap} (h : va_P D classes (nw_X8 ac h2 (nw_X7 ac h1 [] u) u2) H) : va_at D classes (adF (xsX h1 u) adK adV 34, mkc ac (adF (xsX h1 u) adK adV) M0X 34 (.inr (2, 4, some (some holdC)))) H := by
  rw [ax_34]; exact at_Q (f := _) (h 39 _ rfl) (fun j hj => by rcases (show j = 0 ∨ j = 1 ∨ j = 2 ∨ j = 3 by omega) with rfl | rfl | rfl | rfl <;> rfl)
set_option maxRecDepth 100000 in
set_option maxHeartbeats 2000000 in
theorem at0X_35 {D : va_G} {ac : Nat → ClassId} {h1 h2 : Nat} {u u2 : List Nat} {adK adV : Nat → Nat} {H : Heap} (h : va_P D classes (nw_X8 ac h2 (nw_X7 ac h1 [] u) u2) H) : va_at D classes (adF (xsX h1 u) adK adV 35, mkc ac (adF (xsX h1 u) adK adV) M0X 35 (.inl (0, [none, some none, some none, none, none, none, some none]))) H := by
  rw [obX_35, ax_35]; exact h 38 _ rfl
set_option maxRecDepth 100000 in
set_option maxHeartbeats 2000000 in
theorem at0X_36 {D : va_G} {ac : Nat → ClassId} {h1 h2 : Nat} {u u2 : List Nat} {adK adV : Nat → Nat} {H : Heap} (h : va_P D classes (nw_X8 ac h2 (nw_X7 ac h1 [] u) u2) H) : va_at D classes (adF (xsX h1 u) adK adV 36, mkc ac (adF (xsX h1 u) adK adV) M0X 36 (.inl (0, [none, some none, some none, none, none, none, some none]))) H := by
  rw [obX_36, ax_36]; exact h 37 _ rfl
set_option maxRecDepth 100000 in
set_option maxHeartbeats 2000000 in
theorem at0X_37 {D : va_G} {ac : Nat → ClassId} {h1 h2 : Nat} {u u2 : List Nat} {adK adV : Nat → Nat} {H : Heap} (h : va_P D classes (nw_X8 ac h2 (nw_X7 ac h1 [] u) u2) H) : va_at D classes (adF (xsX h1 u) adK adV 37, mkc ac (adF (xsX h1 u) adK adV) M0X 37 (.inl (0, [none, some none, some none, none, none, none, some none]))) H := by
  rw [obX_37, ax_37]; exact h 36 _ rfl
set_option maxRecDepth 100000 in
set_option maxHeartbeats 2000000 in
theorem at0X_38 {D : va_G} {ac : Nat → ClassId} {h1 h2 : Nat} {u u2 : List Nat} {adK adV : Nat → Nat} {H : Heap} (h : va_P D classes (nw_X8 ac h2 (nw_X7 ac h1 [] u) u2) H) : va_at D classes (adF (xsX h1 u) adK adV 38, mkc ac (adF (xsX h1 u) adK adV) M0X 38 (.inl (0, [none, some none, some none, none, none, none, some none]))) H := by
  rw [obX_38, ax_38]; exact h 35 _ rfl
set_option maxRecDepth 100000 in
set_option maxHeartbeats 2000000 in
theorem at0X_39 {D : va_G} {ac : Nat → ClassId} {h1 h2 : Nat} {u u2 : List Nat} {adK adV : Nat → Nat} {H : Heap} (h : va_P D classes (nw_X8 ac h2 (nw_X7 ac h1 [] u) u2) H) : va_at D classes (adF (xsX h1 u) adK adV 39, mkc ac (adF (xsX h1 u) adK adV) M0X 39 (.inr (3, 4, some (some sheetC)))) H := by
  rw [ax_39]; exact at_Q (f := _) (h 34 _ rfl) (fun j hj => by rcases (show j = 0 ∨ j = 1 ∨ j = 2 ∨ j = 3 by omega) with rfl | rfl | rfl | rfl <;> rfl)
set_option maxRecDepth 100000 in
set_option maxHeartbeats 2000000 in
theorem at0X_40 {D : va_G} {ac : Nat → ClassId} {h1 h2 : Nat} {u u2 : List Nat} {adK adV : Nat → Nat} {H : Heap} (h : va_P D classes (nw_X8 ac h2 (nw_X7 ac h1 [] u) u2) H) : va_at D classes (adF (xsX h1 u) adK adV 40, mkc ac (adF (xsX h1 u) adK adV) M0X 40 (.inl (5, [none, none, some (some 41)]))) H := by
  rw [obX_40, ax_40, ax_41]; exact h 33 _ rfl
set_option maxRecDepth 100000 in
set_option maxHeartbeats 2000000 in
theorem at0X_41 {D : va_G} {ac : Nat → ClassId} {h1 h2 : Nat} {u u2 : List Nat} {adK adV : Nat → Nat} {H : Heap} (h : va_P D classes (nw_X8 ac h2 (nw_X7 ac h1 [] u) u2) H) : va_at D classes (adF (xsX h1 u) adK adV 41, mkc ac (adF (xsX h1 u) adK adV) M0X 41 (.inr (1, 40, some none))) H := by
  rw [ax_41]; exact at_J (f := _) (h 32 _ rfl) (fun j _ => by simp [M0X])
set_option maxRecDepth 100000 in
set_option maxHeartbeats 2000000 in
theorem at0X_42 {D : va_G} {ac : Nat → ClassId} {h1 h2 : Nat} {u u2 : List Nat} {adK adV : Nat → Nat} {H : Heap} (h : va_P D classes (nw_X8 ac h2 (nw_X7 ac h1 [] u) u2) H) : va_at D classes (adF (xsX h1 u) adK adV 42, mkc ac (adF (xsX h1 u) adK adV) M0X 42 (.inl (5, [none, none, some (some 43)]))) H := by
  rw [obX_42, ax_42, ax_43]; exact h 31 _ rfl
set_option maxRecDepth 100000 in
set_option maxHeartbeats 2000000 in
theorem at0X_43 {D : va_G} {ac : Nat → ClassId} {h1 h2 : Nat} {u u2 : List Nat} {adK adV : Nat → Nat} {H : Heap} (h : va_P D classes (nw_X8 ac h2 (nw_X7 ac h1 [] u) u2) H) : va_at D classes (adF (xsX h1 u) adK adV 43, mkc ac (adF (xsX h1 u) adK adV) M0X 43 (.inr (1, 40, some none))) H := by
  rw [ax_43]; exact at_J (f := _) (h 30 _ rfl) (fun j _ => by simp [M0X])
set_option maxRecDepth 100000 in
set_option maxHeartbeats 2000000 in
theorem at0X_44 {D : va_G} {ac : Nat → ClassId} {h1 h2 : Nat} {u u2 : List Nat} {adK adV : Nat → Nat} {H : Heap} (h : va_P D classes (nw_X8 ac h2 (nw_X7 ac h1 [] u) u2) H) : va_at D classes (adF (xsX h1 u) adK adV 44, mkc ac (adF (xsX h1 u) adK adV) M0X 44 (.inl (5, [none, none, some (some 45)]))) H := by
  rw [obX_44, ax_44, ax_45]; exact h 29 _ rfl
set_option maxRecDepth 100000 in
set_option maxHeartbeats 2000000 in
theorem at0X_45 {D : va_G} {ac : Nat → ClassId} {h1 h2 : Nat} {u u2 : List Nat} {adK adV : Nat → Nat} {H : Heap} (h : va_P D classes (nw_X8 ac h2 (nw_X7 ac h1 [] u) u2) H) : va_at D classes (adF (xsX h1 u) adK adV 45, mkc ac (adF (xsX h1 u) adK adV) M0X 45 (.inr (1, 40, some none))) H := by
  rw [ax_45]; exact at_J (f := _) (h 28 _ rfl) (fun j _ => by simp [M0X])
set_option maxRecDepth 100000 in
set_option maxHeartbeats 2000000 in
theorem at0X_46 {D : va_G} {ac : Nat → ClassId} {h1 h2 : Nat} {u u2 : List Nat} {adK adV : Nat → Nat} {H : Heap} (h : va_P D classes (nw_X8 ac h2 (nw_X7 ac h1 [] u) u2) H) : va_at D classes (adF (xsX h1 u) adK adV 46, mkc ac (adF (xsX h1 u) adK adV) M0X 46 (.inl (5, [none, none, some (some 47)]))) H := by
  rw [obX_46, ax_46, ax_47]; exact h 27 _ rfl
set_option maxRecDepth 100000 in
set_option maxHeartbeats 2000000 in
theorem at0X_47 {D : va_G} {ac : Nat → ClassId} {h1 h2 : Nat} {u u2 : List Nat} {adK adV : Nat → Nat} {H : Heap} (h : va_P D classes (nw_X8 ac h2 (nw_X7 ac h1 [] u) u2) H) : va_at D classes (adF (xsX h1 u) adK adV 47, mkc ac (adF (xsX h1 u) adK adV) M0X 47 (.inr (1, 40, some none))) H := by
  rw [ax_47]; exact at_J (f := _) (h 26 _ rfl) (fun j _ => by simp [M0X])
set_option maxRecDepth 100000 in
set_option maxHeartbeats 2000000 in
theorem at0M_0 {D : va_G} {ac : Nat → ClassId} {h1 h2 : Nat} {u u2 : List Nat} {adK adV : Nat → Nat} {H : Heap} (h : va_P D classes (nw_X8 ac h2 (nw_X7 ac h1 [] u) u2) H) : va_at D classes (adF (xsM h2 u2) adK adV 0, mkc ac (adF (xsM h2 u2) adK adV) M0M 0 (.inl (8, [none, none, none, some (some 1), some (some 2), some (some 3), some (some 4), some (some 5), none, none, some (some 6), some (some 7), none, none, some (some 8), some (some 9), some (some 10), none, none, none, none, none, some (some 11), some (some 12), some (some 13), some (some 14), some (some 15), some (some 16), some (some 17), none, some (some 18), none, none, none, none, none, some (some 19), some (some 20), some (some 21), some (some 22), some (some 23), some (some 24), some (some 25), none]))) H := by
  rw [obM_0, am_0, am_1, am_2, am_3, am_4, am_5, am_6, am_7, am_8, am_9, am_10, am_11, am_12, am_13, am_14, am_15, am_16, am_17, am_18, am_19, am_20, am_21, am_22, am_23, am_24, am_25]; exact h 25 _ rfl
set_option maxRecDepth 100000 in
set_option maxHeartbeats 2000000 in
theorem at0M_1 {D : va_G} {ac : Nat → ClassId} {h1 h2 : Nat} {u u2 : List Nat} {adK adV : Nat → Nat} {H : Heap} (h : va_P D classes (nw_X8 ac h2 (nw_X7 ac h1 [] u) u2) H) : va_at D classes (adF (xsM h2 u2) adK adV 1, mkc ac (adF (xsM h2 u2) adK adV) M0M 1 (.inr (0, 10, none))) H := by
  rw [am_1]; exact at_I (f := _) (h 24 _ rfl) (fun j _ => by simp [M0M])
set_option maxRecDepth 100000 in
set_option maxHeartbeats 2000000 in
theorem at0M_2 {D : va_G} {ac : Nat → ClassId} {h1 h2 : Nat} {u u2 : List Nat} {adK adV : Nat → Nat} {H : Heap} (h : va_P D classes (nw_X8 ac h2 (nw_X7 ac h1 [] u) u2) H) : va_at D classes (adF (xsM h2 u2) adK adV 2, mkc ac (adF (xsM h2 u2) adK adV) M0M 2 (.inr (0, 10, none))) H := by
  rw [am_2]; exact at_I (f := _) (h 23 _ rfl) (fun j _ => by simp [M0M])
set_option maxRecDepth 100000 in
set_option maxHeartbeats 2000000 in
theorem at0M_3 {D : va_G} {ac : Nat → ClassId} {h1 h2 : Nat} {u u2 : List Nat} {adK adV : Nat → Nat} {H : Heap} (h : va_P D classes (nw_X8 ac h2 (nw_X7 ac h1 [] u) u2) H) : va_at D classes (adF (xsM h2 u2) adK adV 3, mkc ac (adF (xsM h2 u2) adK adV) M0M 3 (.inr (0, 10, none))) H := by
  rw [am_3]; exact at_I (f := _) (h 22 _ rfl) (fun j _ => by simp [M0M])
set_option maxRecDepth 100000 in
set_option maxHeartbeats 2000000 in
theorem at0M_4 {D : va_G} {ac : Nat → ClassId} {h1 h2 : Nat} {u u2 : List Nat} {adK adV : Nat → Nat} {H : Heap} (h : va_P D classes (nw_X8 ac h2 (nw_X7 ac h1 [] u) u2) H) : va_at D classes (adF (xsM h2 u2) adK adV 4, mkc ac (adF (xsM h2 u2) adK adV) M0M 4 (.inr (0, 10, none))) H := by
  rw [am_4]; exact at_I (f := _) (h 21 _ rfl) (fun j _ => by simp [M0M])
set_option maxRecDepth 100000 in
set_option maxHeartbeats 2000000 in
theorem at0M_5 {D : va_G} {ac : Nat → ClassId} {h1 h2 : Nat} {u u2 : List Nat} {adK adV : Nat → Nat} {H : Heap} (h : va_P D classes (nw_X8 ac h2 (nw_X7 ac h1 [] u) u2) H) : va_at D classes (adF (xsM h2 u2) adK adV 5, mkc ac (adF (xsM h2 u2) adK adV) M0M 5 (.inr (1, 6, some none))) H := by
  rw [am_5]; exact at_J (f := _) (h 20 _ rfl) (by decide +kernel)
set_option maxRecDepth 100000 in
set_option maxHeartbeats 2000000 in
theorem at0M_6 {D : va_G} {ac : Nat → ClassId} {h1 h2 : Nat} {u u2 : List Nat} {adK adV : Nat → Nat} {H : Heap} (h : va_P D classes (nw_X8 ac h2 (nw_X7 ac h1 [] u) u2) H) : va_at D classes (adF (xsM h2 u2) adK adV 6, mkc ac (adF (xsM h2 u2) adK adV) M0M 6 (.inr (1, 42, some none))) H := by
  rw [am_6]; exact at_J (f := _) (h 19 _ rfl) (fun j _ => by simp [M0M])
set_option maxRecDepth 100000 in
set_option maxHeartbeats 2000000 in
theorem at0M_7 {D : va_G} {ac : Nat → ClassId} {h1 h2 : Nat} {u u2 : List Nat} {adK adV : Nat → Nat} {H : Heap} (h : va_P D classes (nw_X8 ac h2 (nw_X7 ac h1 [] u) u2) H) : va_at D classes (adF (xsM h2 u2) adK adV 7, mkc ac (adF (xsM h2 u2) adK adV) M0M 7 (.inr (0, 6, none))) H := by
  rw [am_7]; exact at_I (f := _) (h 18 _ rfl) (fun j _ => by simp [M0M])
set_option maxRecDepth 100000 in
set_option maxHeartbeats 2000000 in
theorem at0M_8 {D : va_G} {ac : Nat → ClassId} {h1 h2 : Nat} {u u2 : List Nat} {adK adV : Nat → Nat} {H : Heap} (h : va_P D classes (nw_X8 ac h2 (nw_X7 ac h1 [] u) u2) H) : va_at D classes (adF (xsM h2 u2) adK adV 8, mkc ac (adF (xsM h2 u2) adK adV) M0M 8 (.inr (0, 200, none))) H := by
  rw [am_8]; exact at_I (f := _) (h 17 _ rfl) (fun j _ => by simp [M0M])
set_option maxRecDepth 100000 in
set_option maxHeartbeats 2000000 in
theorem at0M_9 {D : va_G} {ac : Nat → ClassId} {h1 h2 : Nat} {u u2 : List Nat} {adK adV : Nat → Nat} {H : Heap} (h : va_P D classes (nw_X8 ac h2 (nw_X7 ac h1 [] u) u2) H) : va_at D classes (adF (xsM h2 u2) adK adV 9, mkc ac (adF (xsM h2 u2) adK adV) M0M 9 (.inr (0, 200, none))) H := by
  rw [am_9]; exact at_I (f := _) (h 16 _ rfl) (fun j _ => by simp [M0M])
set_option maxRecDepth 100000 in
set_option maxHeartbeats 2000000 in
theorem at0M_10 {D : va_G} {ac : Nat → ClassId} {h1 h2 : Nat} {u u2 : List Nat} {adK adV : Nat → Nat} {H : Heap} (h : va_P D classes (nw_X8 ac h2 (nw_X7 ac h1 [] u) u2) H) : va_at D classes (adF (xsM h2 u2) adK adV 10, mkc ac (adF (xsM h2 u2) adK adV) M0M 10 (.inr (0, 200, none))) H := by
  rw [am_10]; exact at_I (f := _) (h 15 _ rfl) (fun j _ => by simp [M0M])
set_option maxRecDepth 100000 in
set_option maxHeartbeats 2000000 in
theorem at0M_11 {D : va_G} {ac : Nat → ClassId} {h1 h2 : Nat} {u u2 : List Nat} {adK adV : Nat → Nat} {H : Heap} (h : va_P D classes (nw_X8 ac h2 (nw_X7 ac h1 [] u) u2) H) : va_at D classes (adF (xsM h2 u2) adK adV 11, mkc ac (adF (xsM h2 u2) adK adV) M0M 11 (.inr (0, 4, none))) H := by
  rw [am_11]; exact at_I (f := _) (h 14 _ rfl) (fun j _ => by simp [M0M])
set_option maxRecDepth 100000 in
set_option maxHeartbeats 2000000 in
theorem at0M_12 {D : va_G} {ac : Nat → ClassId} {h1 h2 : Nat} {u u2 : List Nat} {adK adV : Nat → Nat} {H : Heap} (h : va_P D classes (nw_X8 ac h2 (nw_X7 ac h1 [] u) u2) H) : va_at D classes (adF (xsM h2 u2) adK adV 12, mkc ac (adF (xsM h2 u2) adK adV) M0M 12 (.inr (0, 4, none))) H := by
  rw [am_12]; exact at_I (f := _) (h 13 _ rfl) (fun j _ => by simp [M0M])
set_option maxRecDepth 100000 in
set_option maxHeartbeats 2000000 in
theorem at0M_13 {D : va_G} {ac : Nat → ClassId} {h1 h2 : Nat} {u u2 : List Nat} {adK adV : Nat → Nat} {H : Heap} (h : va_P D classes (nw_X8 ac h2 (nw_X7 ac h1 [] u) u2) H) : va_at D classes (adF (xsM h2 u2) adK adV 13, mkc ac (adF (xsM h2 u2) adK adV) M0M 13 (.inr (0, 4, none))) H := by
  rw [am_13]; exact at_I (f := _) (h 12 _ rfl) (fun j _ => by simp [M0M])
set_option maxRecDepth 100000 in
set_option maxHeartbeats 2000000 in
theorem at0M_14 {D : va_G} {ac : Nat → ClassId} {h1 h2 : Nat} {u u2 : List Nat} {adK adV : Nat → Nat} {H : Heap} (h : va_P D classes (nw_X8 ac h2 (nw_X7 ac h1 [] u) u2) H) : va_at D classes (adF (xsM h2 u2) adK adV 14, mkc ac (adF (xsM h2 u2) adK adV) M0M 14 (.inr (0, 4, none))) H := by
  rw [am_14]; exact at_I (f := _) (h 11 _ rfl) (fun j _ => by simp [M0M])
set_option maxRecDepth 100000 in
set_option maxHeartbeats 2000000 in
theorem at0M_15 {D : va_G} {ac : Nat → ClassId} {h1 h2 : Nat} {u u2 : List Nat} {adK adV : Nat → Nat} {H : Heap} (h : va_P D classes (nw_X8 ac h2 (nw_X7 ac h1 [] u) u2) H) : va_at D classes (adF (xsM h2 u2) adK adV 15, mkc ac (adF (xsM h2 u2) adK adV) M0M 15 (.inr (1, 4, some none))) H := by
  rw [am_15]; exact at_J (f := _) (h 10 _ rfl) (fun j _ => by simp [M0M])
set_option maxRecDepth 100000 in
set_option maxHeartbeats 2000000 in
theorem at0M_16 {D : va_G} {ac : Nat → ClassId} {h1 h2 : Nat} {u u2 : List Nat} {adK adV : Nat → Nat} {H : Heap} (h : va_P D classes (nw_X8 ac h2 (nw_X7 ac h1 [] u) u2) H) : va_at D classes (adF (xsM h2 u2) adK adV 16, mkc ac (adF (xsM h2 u2) adK adV) M0M 16 (.inr (1, 4, some none))) H := by
  rw [am_16]; exact at_J (f := _) (h 9 _ rfl) (fun j _ => by simp [M0M])
set_option maxRecDepth 100000 in
set_option maxHeartbeats 2000000 in
theorem at0M_17 {D : va_G} {ac : Nat → ClassId} {h1 h2 : Nat} {u u2 : List Nat} {adK adV : Nat → Nat} {H : Heap} (h : va_P D classes (nw_X8 ac h2 (nw_X7 ac h1 [] u) u2) H) : va_at D classes (adF (xsM h2 u2) adK adV 17, mkc ac (adF (xsM h2 u2) adK adV) M0M 17 (.inr (1, 4, some none))) H := by
  rw [am_17]; exact at_J (f := _) (h 8 _ rfl) (fun j _ => by simp [M0M])
set_option maxRecDepth 100000 in
set_option maxHeartbeats 2000000 in
theorem at0M_18 {D : va_G} {ac : Nat → ClassId} {h1 h2 : Nat} {u u2 : List Nat} {adK adV : Nat → Nat} {H : Heap} (h : va_P D classes (nw_X8 ac h2 (nw_X7 ac h1 [] u) u2) H) : va_at D classes (adF (xsM h2 u2) adK adV 18, mkc ac (adF (xsM h2 u2) adK adV) M0M 18 (.inr (0, 120, none))) H := by
  rw [am_18]; exact at_I (f := _) (h 7 _ rfl) (fun j _ => by simp [M0M])
set_option maxRecDepth 100000 in
set_option maxHeartbeats 2000000 in
theorem at0M_19 {D : va_G} {ac : Nat → ClassId} {h1 h2 : Nat} {u u2 : List Nat} {adK adV : Nat → Nat} {H : Heap} (h : va_P D classes (nw_X8 ac h2 (nw_X7 ac h1 [] u) u2) H) : va_at D classes (adF (xsM h2 u2) adK adV 19, mkc ac (adF (xsM h2 u2) adK adV) M0M 19 (.inr (0, 4, none))) H := by
  rw [am_19]; exact at_I (f := _) (h 6 _ rfl) (fun j _ => by simp [M0M])
set_option maxRecDepth 100000 in
set_option maxHeartbeats 2000000 in
theorem at0M_20 {D : va_G} {ac : Nat → ClassId} {h1 h2 : Nat} {u u2 : List Nat} {adK adV : Nat → Nat} {H : Heap} (h : va_P D classes (nw_X8 ac h2 (nw_X7 ac h1 [] u) u2) H) : va_at D classes (adF (xsM h2 u2) adK adV 20, mkc ac (adF (xsM h2 u2) adK adV) M0M 20 (.inr (0, 4, none))) H := by
  rw [am_20]; exact at_I (f := _) (h 5 _ rfl) (by decide +kernel)
set_option maxRecDepth 100000 in
set_option maxHeartbeats 2000000 in
theorem at0M_21 {D : va_G} {ac : Nat → ClassId} {h1 h2 : Nat} {u u2 : List Nat} {adK adV : Nat → Nat} {H : Heap} (h : va_P D classes (nw_X8 ac h2 (nw_X7 ac h1 [] u) u2) H) : va_at D classes (adF (xsM h2 u2) adK adV 21, mkc ac (adF (xsM h2 u2) adK adV) M0M 21 (.inr (0, 4, none))) H := by
  rw [am_21]; exact at_I (f := _) (h 4 _ rfl) (fun j _ => by simp [M0M])
set_option maxRecDepth 100000 in
set_option maxHeartbeats 2000000 in
theorem at0M_22 {D : va_G} {ac : Nat → ClassId} {h1 h2 : Nat} {u u2 : List Nat} {adK adV : Nat → Nat} {H : Heap} (h : va_P D classes (nw_X8 ac h2 (nw_X7 ac h1 [] u) u2) H) : va_at D classes (adF (xsM h2 u2) adK adV 22, mkc ac (adF (xsM h2 u2) adK adV) M0M 22 (.inr (1, 160, some none))) H := by
  rw [am_22]; exact at_J (f := _) (h 3 _ rfl) (fun j _ => by simp [M0M])
set_option maxRecDepth 100000 in
set_option maxHeartbeats 2000000 in
theorem at0M_23 {D : va_G} {ac : Nat → ClassId} {h1 h2 : Nat} {u u2 : List Nat} {adK adV : Nat → Nat} {H : Heap} (h : va_P D classes (nw_X8 ac h2 (nw_X7 ac h1 [] u) u2) H) : va_at D classes (adF (xsM h2 u2) adK adV 23, mkc ac (adF (xsM h2 u2) adK adV) M0M 23 (.inr (0, 6, none))) H := by
  rw [am_23]; exact at_I (f := _) (h 2 _ rfl) (fun j _ => by simp [M0M])
set_option maxRecDepth 100000 in
set_option maxHeartbeats 2000000 in
theorem at0M_24 {D : va_G} {ac : Nat → ClassId} {h1 h2 : Nat} {u u2 : List Nat} {adK adV : Nat → Nat} {H : Heap} (h : va_P D classes (nw_X8 ac h2 (nw_X7 ac h1 [] u) u2) H) : va_at D classes (adF (xsM h2 u2) adK adV 24, mkc ac (adF (xsM h2 u2) adK adV) M0M 24 (.inr (0, 80, none))) H := by
  rw [am_24]; exact at_I (f := _) (h 1 _ rfl) (fun j _ => by simp [M0M])
set_option maxRecDepth 100000 in
set_option maxHeartbeats 2000000 in
theorem at0M_25 {D : va_G} {ac : Nat → ClassId} {h1 h2 : Nat} {u u2 : List Nat} {adK adV : Nat → Nat} {H : Heap} (h : va_P D classes (nw_X8 ac h2 (nw_X7 ac h1 [] u) u2) H) : va_at D classes (adF (xsM h2 u2) adK adV 25, mkc ac (adF (xsM h2 u2) adK adV) M0M 25 (.inr (1, 12, some none))) H := by
  rw [am_25]; exact at_J (f := _) (h 0 _ rfl) (fun j _ => by simp [M0M])
theorem W0_P {D : va_G} {ac : Nat → ClassId} {h1 h2 : Nat} {u u2 : List Nat} {adK adV : Nat → Nat} {H : Heap} (h : va_P D classes (nw_X8 ac h2 (nw_X7 ac h1 [] u) u2) H) : va_P D classes (wXM ac (adF (xsX h1 u) adK adV) (adF (xsM h2 u2) adK adV) M0X M0M) H := by
  refine wl_P (fun k d hk => ?_) (wl_P (fun k d hk => ?_) (fun k q hq => by simp at hq))
  · match k, hk with
    | 0, hk => have h2 := Option.some.inj (tx_0.symm.trans hk); subst h2; exact at0X_0 h
    | 1, hk => have h2 := Option.some.inj (tx_1.symm.trans hk); subst h2; exact at0X_1 h
    | 2, hk => have h2 := Option.some.inj (tx_2.symm.trans hk); subst h2; exact at0X_2 h
    | 3, hk => have h2 := Option.some.inj (tx_3.symm.trans hk); subst h2; exact at0X_3 h
    | 4, hk => have h2 := Option.some.inj (tx_4.symm.trans hk); subst h2; exact at0X_4 h
    | 5, hk => have h2 := Option.some.inj (tx_5.symm.trans hk); subst h2; exact at0X_5 h
    | 6, hk => have h2 := Option.some.inj (tx_6.symm.trans hk); subst h2; exact at0X_6 h
    | 7, hk => have h2 := Option.some.inj (tx_7.symm.trans hk); subst h2; exact at0X_7 h
    | 8, hk => have h2 := Option.some.inj (tx_8.symm.trans hk); subst h2; exact at0X_8 h
    | 9, hk => have h2 := Option.some.inj (tx_9.symm.trans hk); subst h2; exact at0X_9 h
    | 10, hk => have h2 := Option.some.inj (tx_10.symm.trans hk); subst h2; exact at0X_10 h
    | 11, hk => have h2 := Option.some.inj (tx_11.symm.trans hk); subst h2; exact at0X_11 h
    | 12, hk => have h2 := Option.some.inj (tx_12.symm.trans hk); subst h2; exact at0X_12 h
    | 13, hk => have h2 := Option.some.inj (tx_13.symm.trans hk); subst h2; exact at0X_13 h
    | 14, hk => have h2 := Option.some.inj (tx_14.symm.trans hk); subst h2; exact at0X_14 h
    | 15, hk => have h2 := Option.some.inj (tx_15.symm.trans hk); subst h2; exact at0X_15 h
    | 16, hk => have h2 := Option.some.inj (tx_16.symm.trans hk); subst h2; exact at0X_16 h
    | 17, hk => have h2 := Option.some.inj (tx_17.symm.trans hk); subst h2; exact at0X_17 h
    | 18, hk => have h2 := Option.some.inj (tx_18.symm.trans hk); subst h2; exact at0X_18 h
    | 19, hk => have h2 := Option.some.inj (tx_19.symm.trans hk); subst h2; exact at0X_19 h
    | 20, hk => have h2 := Option.some.inj (tx_20.symm.trans hk); subst h2; exact at0X_20 h
    | 21, hk => have h2 := Option.some.inj (tx_21.symm.trans hk); subst h2; exact at0X_21 h
    | 22, hk => have h2 := Option.some.inj (tx_22.symm.trans hk); subst h2; exact at0X_22 h
    | 23, hk => have h2 := Option.some.inj (tx_23.symm.trans hk); subst h2; exact at0X_23 h
    | 24, hk => have h2 := Option.some.inj (tx_24.symm.trans hk); subst h2; exact at0X_24 h
    | 25, hk => have h2 := Option.some.inj (tx_25.symm.trans hk); subst h2; exact at0X_25 h
    | 26, hk => have h2 := Option.some.inj (tx_26.symm.trans hk); subst h2; exact at0X_26 h
    | 27, hk => have h2 := Option.some.inj (tx_27.symm.trans hk); subst h2; exact at0X_27 h
    | 28, hk => have h2 := Option.some.inj (tx_28.symm.trans hk); subst h2; exact at0X_28 h
    | 29, hk => have h2 := Option.some.inj (tx_29.symm.trans hk); subst h2; exact at0X_29 h
    | 30, hk => have h2 := Option.some.inj (tx_30.symm.trans hk); subst h2; exact at0X_30 h
    | 31, hk => have h2 := Option.some.inj (tx_31.symm.trans hk); subst h2; exact at0X_31 h
    | 32, hk => have h2 := Option.some.inj (tx_32.symm.trans hk); subst h2; exact at0X_32 h
    | 33, hk => have h2 := Option.some.inj (tx_33.symm.trans hk); subst h2; exact at0X_33 h
    | 34, hk => have h2 := Option.some.inj (tx_34.symm.trans hk); subst h2; exact at0X_34 h
    | 35, hk => have h2 := Option.some.inj (tx_35.symm.trans hk); subst h2; exact at0X_35 h
    | 36, hk => have h2 := Option.some.inj (tx_36.symm.trans hk); subst h2; exact at0X_36 h
    | 37, hk => have h2 := Option.some.inj (tx_37.symm.trans hk); subst h2; exact at0X_37 h
    | 38, hk => have h2 := Option.some.inj (tx_38.symm.trans hk); subst h2; exact at0X_38 h
    | 39, hk => have h2 := Option.some.inj (tx_39.symm.trans hk); subst h2; exact at0X_39 h
    | 40, hk => have h2 := Option.some.inj (tx_40.symm.trans hk); subst h2; exact at0X_40 h
    | 41, hk => have h2 := Option.some.inj (tx_41.symm.trans hk); subst h2; exact at0X_41 h
    | 42, hk => have h2 := Option.some.inj (tx_42.symm.trans hk); subst h2; exact at0X_42 h
    | 43, hk => have h2 := Option.some.inj (tx_43.symm.trans hk); subst h2; exact at0X_43 h
    | 44, hk => have h2 := Option.some.inj (tx_44.symm.trans hk); subst h2; exact at0X_44 h
    | 45, hk => have h2 := Option.some.inj (tx_45.symm.trans hk); subst h2; exact at0X_45 h
    | 46, hk => have h2 := Option.some.inj (tx_46.symm.trans hk); subst h2; exact at0X_46 h
    | 47, hk => have h2 := Option.some.inj (tx_47.symm.trans hk); subst h2; exact at0X_47 h
    | k + 48, hk => simp [tabX] at hk
  · match k, hk with
    | 0, hk => have h2 := Option.some.inj (tm_0.symm.trans hk); subst h2; exact at0M_0 h
    | 1, hk => have h2 := Option.some.inj (tm_1.symm.trans hk); subst h2; exact at0M_1 h
    | 2, hk => have h2 := Option.some.inj (tm_2.symm.trans hk); subst h2; exact at0M_2 h
    | 3, hk => have h2 := Option.some.inj (tm_3.symm.trans hk); subst h2; exact at0M_3 h
    | 4, hk => have h2 := Option.some.inj (tm_4.symm.trans hk); subst h2; exact at0M_4 h
    | 5, hk => have h2 := Option.some.inj (tm_5.symm.trans hk); subst h2; exact at0M_5 h
    | 6, hk => have h2 := Option.some.inj (tm_6.symm.trans hk); subst h2; exact at0M_6 h
    | 7, hk => have h2 := Option.some.inj (tm_7.symm.trans hk); subst h2; exact at0M_7 h
    | 8, hk => have h2 := Option.some.inj (tm_8.symm.trans hk); subst h2; exact at0M_8 h
    | 9, hk => have h2 := Option.some.inj (tm_9.symm.trans hk); subst h2; exact at0M_9 h
    | 10, hk => have h2 := Option.some.inj (tm_10.symm.trans hk); subst h2; exact at0M_10 h
    | 11, hk => have h2 := Option.some.inj (tm_11.symm.trans hk); subst h2; exact at0M_11 h
    | 12, hk => have h2 := Option.some.inj (tm_12.symm.trans hk); subst h2; exact at0M_12 h
    | 13, hk => have h2 := Option.some.inj (tm_13.symm.trans hk); subst h2; exact at0M_13 h
    | 14, hk => have h2 := Option.some.inj (tm_14.symm.trans hk); subst h2; exact at0M_14 h
    | 15, hk => have h2 := Option.some.inj (tm_15.symm.trans hk); subst h2; exact at0M_15 h
    | 16, hk => have h2 := Option.some.inj (tm_16.symm.trans hk); subst h2; exact at0M_16 h
    | 17, hk => have h2 := Option.some.inj (tm_17.symm.trans hk); subst h2; exact at0M_17 h
    | 18, hk => have h2 := Option.some.inj (tm_18.symm.trans hk); subst h2; exact at0M_18 h
    | 19, hk => have h2 := Option.some.inj (tm_19.symm.trans hk); subst h2; exact at0M_19 h
    | 20, hk => have h2 := Option.some.inj (tm_20.symm.trans hk); subst h2; exact at0M_20 h
    | 21, hk => have h2 := Option.some.inj (tm_21.symm.trans hk); subst h2; exact at0M_21 h
    | 22, hk => have h2 := Option.some.inj (tm_22.symm.trans hk); subst h2; exact at0M_22 h
    | 23, hk => have h2 := Option.some.inj (tm_23.symm.trans hk); subst h2; exact at0M_23 h
    | 24, hk => have h2 := Option.some.inj (tm_24.symm.trans hk); subst h2; exact at0M_24 h
    | 25, hk => have h2 := Option.some.inj (tm_25.symm.trans hk); subst h2; exact at0M_25 h
    | k + 26, hk => simp [tabM] at hk
set_option maxRecDepth 100000 in
set_option maxHeartbeats 4000000 in
theorem W0_D {ac : Nat → ClassId} {A : Nat → Prop} {h1 h2 : Nat} {u u2 : List Nat} {adK adV : Nat → Nat} (h : va_D A (nw_X8 ac h2 (nw_X7 ac h1 [] u) u2)) : va_D A (wXM ac (adF (xsX h1 u) adK adV) (adF (xsM h2 u2) adK adV) M0X M0M) := by
  have h3 : va_D A [(h1, .inr (7, [.ref (u.getD 0 0), .ref (u.getD 6 0), .ref (u.getD 12 0), .int 0, .ref (u.getD 18 0), .ref (u.getD 25 0), .ref (u.getD 30 0), .ref (u.getD 32 0), .ref (u.getD 33 0), .ref (u.getD 38 0)])), ((u.getD 0 0), .inr (1, [.int 0, .int 0, .int 1, .ref (u.getD 1 0), .ref (u.getD 2 0), .ref (u.getD 3 0), .ref (u.getD 4 0), .ref (u.getD 5 0)])), ((u.getD 1 0), .inl (ac 0, 10, .inl (fun _ => 0))), ((u.getD 2 0), .inl (ac 0, 10, .inl (fun _ => 0))), ((u.getD 3 0), .inl (ac 0, 10, .inl (fun _ => 0))), ((u.getD 4 0), .inl (ac 0, 10, .inl (fun _ => 0))), ((u.getD 5 0), .inl (ac 1, 6, .inr (.inl (fun _ => 0)))), ((u.getD 6 0), .inr (1, [.int 0, .int 0, .int 1, .ref (u.getD 7 0), .ref (u.getD 8 0), .ref (u.getD 9 0), .ref (u.getD 10 0), .ref (u.getD 11 0)])), ((u.getD 7 0), .inl (ac 0, 10, .inl (fun _ => 0))), ((u.getD 8 0), .inl (ac 0, 10, .inl (fun _ => 0))), ((u.getD 9 0), .inl (ac 0, 10, .inl (fun _ => 0))), ((u.getD 10 0), .inl (ac 0, 10, .inl (fun _ => 0))), ((u.getD 11 0), .inl (ac 1, 6, .inr (.inl (fun _ => 0)))), ((u.getD 12 0), .inr (1, [.int 0, .int 0, .int 1, .ref (u.getD 13 0), .ref (u.getD 14 0), .ref (u.getD 15 0), .ref (u.getD 16 0), .ref (u.getD 17 0)])), ((u.getD 13 0), .inl (ac 0, 10, .inl (fun _ => 0))), ((u.getD 14 0), .inl (ac 0, 10, .inl (fun _ => 0))), ((u.getD 15 0), .inl (ac 0, 10, .inl (fun _ => 0))), ((u.getD 16 0), .inl (ac 0, 10, .inl (fun _ => 0))), ((u.getD 17 0), .inl (ac 1, 6, .inr (.inl (fun _ => 0)))), ((u.getD 18 0), .inr (4, [.int 0, .ref (u.getD 19 0), .ref (u.getD 20 0), .int 0, .int 0, .int 0, .int 0, .int 0, .ref (u.getD 21 0), .ref (u.getD 22 0), .ref (u.getD 23 0), .ref (u.getD 24 0)])), ((u.getD 19 0), .inl (ac 0, 64, .inl (fun _ => 0))), ((u.getD 20 0), .inl (ac 0, 64, .inl (fun _ => 0))), ((u.getD 21 0), .inl (ac 0, 6, .inl (fun _ => 0))), ((u.getD 22 0), .inl (ac 0, 64, .inl (fun _ => 0))), ((u.getD 23 0), .inl (ac 0, 64, .inl (fun _ => 0))), ((u.getD 24 0), .inl (ac 0, 1024, .inl (fun _ => 0))), ((u.getD 25 0), .inr (2, [.ref (u.getD 26 0), .int 0, .int 0, .int 0, .ref (u.getD 27 0), .ref (u.getD 28 0), .ref (u.getD 29 0)])), ((u.getD 26 0), .inl (ac 0, 6, .inl (fun _ => 0))), ((u.getD 27 0), .inl (ac 0, 6, .inl (fun _ => 0))), ((u.getD 28 0), .inl (ac 0, 10, .inl (fun _ => 0))), ((u.getD 29 0), .inl (ac 1, 6, .inr (.inl (fun _ => 0)))), ((u.getD 30 0), .inr (6, [.int 0, .ref (u.getD 31 0), .int 0, .int 0, .int 0, .int 0])), ((u.getD 31 0), .inl (ac 0, 120, .inl (fun _ => 0))), ((u.getD 32 0), .inr (3, [.int 0])), ((u.getD 33 0), .inl (ac 2, 4, .inr (.inr (.inr (.inr (va_up ((va_up ((va_up ((va_up ((fun _ => none)) (0 : Int32).toNatClampNeg (some (u.getD 34 0)))) (1 : Int32).toNatClampNeg (some (u.getD 35 0)))) (2 : Int32).toNatClampNeg (some (u.getD 36 0)))) (3 : Int32).toNatClampNeg (some (u.getD 37 0)))))))), ((u.getD 34 0), .inr (0, [.int 0, .long 0, .long 0, .int 0, .int 0, .int 0, .long 0])), ((u.getD 35 0), .inr (0, [.int 0, .long 0, .long 0, .int 0, .int 0, .int 0, .long 0])), ((u.getD 36 0), .inr (0, [.int 0, .long 0, .long 0, .int 0, .int 0, .int 0, .long 0])), ((u.getD 37 0), .inr (0, [.int 0, .long 0, .long 0, .int 0, .int 0, .int 0, .long 0])), ((u.getD 38 0), .inl (ac 3, 4, .inr (.inr (.inr (.inr (va_up ((va_up ((va_up ((va_up ((fun _ => none)) (0 : Int32).toNatClampNeg (some (u.getD 39 0)))) (1 : Int32).toNatClampNeg (some (u.getD 41 0)))) (2 : Int32).toNatClampNeg (some (u.getD 43 0)))) (3 : Int32).toNatClampNeg (some (u.getD 45 0)))))))), ((u.getD 39 0), .inr (5, [.int (-1), .int 0, .ref (u.getD 40 0)])), ((u.getD 40 0), .inl (ac 1, 40, .inr (.inl (fun _ => 0)))), ((u.getD 41 0), .inr (5, [.int (-1), .int 0, .ref (u.getD 42 0)])), ((u.getD 42 0), .inl (ac 1, 40, .inr (.inl (fun _ => 0)))), ((u.getD 43 0), .inr (5, [.int (-1), .int 0, .ref (u.getD 44 0)])), ((u.getD 44 0), .inl (ac 1, 40, .inr (.inl (fun _ => 0)))), ((u.getD 45 0), .inr (5, [.int (-1), .int 0, .ref (u.getD 46 0)])), ((u.getD 46 0), .inl (ac 1, 40, .inr (.inl (fun _ => 0)))), (h2, .inr (8, [.int 0, .int 0, .int 1, .ref (u2.getD 0 0), .ref (u2.getD 1 0), .ref (u2.getD 2 0), .ref (u2.getD 3 0), .ref (u2.getD 4 0), .int (-1), .int 0, .ref (u2.getD 5 0), .ref (u2.getD 6 0), .int 0, .int 0, .ref (u2.getD 7 0), .ref (u2.getD 8 0), .ref (u2.getD 9 0), .int 0, .int 0, .int 0, .int 0, .int 0, .ref (u2.getD 10 0), .ref (u2.getD 11 0), .ref (u2.getD 12 0), .ref (u2.getD 13 0), .ref (u2.getD 14 0), .ref (u2.getD 15 0), .ref (u2.getD 16 0), .int 0, .ref (u2.getD 17 0), .int 0, .int 0, .int 0, .int 0, .int 0, .ref (u2.getD 18 0), .ref (u2.getD 19 0), .ref (u2.getD 20 0), .ref (u2.getD 21 0), .ref (u2.getD 22 0), .ref (u2.getD 23 0), .ref (u2.getD 24 0), .int 0])), ((u2.getD 0 0), .inl (ac 0, 10, .inl (fun _ => 0))), ((u2.getD 1 0), .inl (ac 0, 10, .inl (fun _ => 0))), ((u2.getD 2 0), .inl (ac 0, 10, .inl (fun _ => 0))), ((u2.getD 3 0), .inl (ac 0, 10, .inl (fun _ => 0))), ((u2.getD 4 0), .inl (ac 1, 6, .inr (.inl (vp_updL ((vp_updL ((vp_updL ((vp_updL ((vp_updL ((vp_updL ((fun _ => 0)) (0 : Int32).toNatClampNeg 1099511627775)) (1 : Int32).toNatClampNeg 1099511627775)) (2 : Int32).toNatClampNeg 1099511627775)) (3 : Int32).toNatClampNeg 1099511627775)) (4 : Int32).toNatClampNeg 1099511627775)) (5 : Int32).toNatClampNeg 1099511627775)))), ((u2.getD 5 0), .inl (ac 1, 42, .inr (.inl (fun _ => 0)))), ((u2.getD 6 0), .inl (ac 0, 6, .inl (fun _ => 0))), ((u2.getD 7 0), .inl (ac 0, 200, .inl (fun _ => 0))), ((u2.getD 8 0), .inl (ac 0, 200, .inl (fun _ => 0))), ((u2.getD 9 0), .inl (ac 0, 200, .inl (fun _ => 0))), ((u2.getD 10 0), .inl (ac 0, 4, .inl (fun _ => 0))), ((u2.getD 11 0), .inl (ac 0, 4, .inl (fun _ => 0))), ((u2.getD 12 0), .inl (ac 0, 4, .inl (fun _ => 0))), ((u2.getD 13 0), .inl (ac 0, 4, .inl (fun _ => 0))), ((u2.getD 14 0), .inl (ac 1, 4, .inr (.inl (fun _ => 0)))), ((u2.getD 15 0), .inl (ac 1, 4, .inr (.inl (fun _ => 0)))), ((u2.getD 16 0), .inl (ac 1, 4, .inr (.inl (fun _ => 0)))), ((u2.getD 17 0), .inl (ac 0, 120, .inl (fun _ => 0))), ((u2.getD 18 0), .inl (ac 0, 4, .inl (fun _ => 0))), ((u2.getD 19 0), .inl (ac 0, 4, .inl (upd ((upd ((upd ((upd ((fun _ => 0)) (0 : Int32).toNatClampNeg (-1))) (1 : Int32).toNatClampNeg (-1))) (2 : Int32).toNatClampNeg (-1))) (3 : Int32).toNatClampNeg (-1)))), ((u2.getD 20 0), .inl (ac 0, 4, .inl (fun _ => 0))), ((u2.getD 21 0), .inl (ac 1, 160, .inr (.inl (fun _ => 0)))), ((u2.getD 22 0), .inl (ac 0, 6, .inl (fun _ => 0))), ((u2.getD 23 0), .inl (ac 0, 80, .inl (fun _ => 0))), ((u2.getD 24 0), .inl (ac 1, 12, .inr (.inl (fun _ => 0))))] := h.sub [73, 72, 71, 70, 69, 68, 67, 66, 65, 64, 63, 62, 61, 60, 59, 58, 57, 56, 55, 54, 53, 52, 51, 50, 49, 48, 47, 46, 45, 44, 43, 42, 41, 40, 39, 38, 37, 36, 35, 34, 33, 32, 31, 30, 29, 28, 27, 26, 25, 24, 23, 22, 21, 20, 19, 18, 17, 16, 15, 14, 13, 12, 11, 10, 9, 8, 7, 6, 5, 4, 3, 2, 1, 0] (by decide +kernel) rfl
  refine D_addr ?_ h3
  unfold wXM wM
  rw [wl_fst, wl_fst]
  simp only [List.map_cons, List.map_nil]
  show _ = [adF (xsX h1 u) adK adV 0, adF (xsX h1 u) adK adV 1, adF (xsX h1 u) adK adV 2, adF (xsX h1 u) adK adV 3, adF (xsX h1 u) adK adV 4, adF (xsX h1 u) adK adV 5, adF (xsX h1 u) adK adV 6, adF (xsX h1 u) adK adV 7, adF (xsX h1 u) adK adV 8, adF (xsX h1 u) adK adV 9, adF (xsX h1 u) adK adV 10, adF (xsX h1 u) adK adV 11, adF (xsX h1 u) adK adV 12, adF (xsX h1 u) adK adV 13, adF (xsX h1 u) adK adV 14, adF (xsX h1 u) adK adV 15, adF (xsX h1 u) adK adV 16, adF (xsX h1 u) adK adV 17, adF (xsX h1 u) adK adV 18, adF (xsX h1 u) adK adV 19, adF (xsX h1 u) adK adV 20, adF (xsX h1 u) adK adV 21, adF (xsX h1 u) adK adV 22, adF (xsX h1 u) adK adV 23, adF (xsX h1 u) adK adV 24, adF (xsX h1 u) adK adV 25, adF (xsX h1 u) adK adV 26, adF (xsX h1 u) adK adV 27, adF (xsX h1 u) adK adV 28, adF (xsX h1 u) adK adV 29, adF (xsX h1 u) adK adV 30, adF (xsX h1 u) adK adV 31, adF (xsX h1 u) adK adV 32, adF (xsX h1 u) adK adV 33, adF (xsX h1 u) adK adV 34, adF (xsX h1 u) adK adV 35, adF (xsX h1 u) adK adV 36, adF (xsX h1 u) adK adV 37, adF (xsX h1 u) adK adV 38, adF (xsX h1 u) adK adV 39, adF (xsX h1 u) adK adV 40, adF (xsX h1 u) adK adV 41, adF (xsX h1 u) adK adV 42, adF (xsX h1 u) adK adV 43, adF (xsX h1 u) adK adV 44, adF (xsX h1 u) adK adV 45, adF (xsX h1 u) adK adV 46, adF (xsX h1 u) adK adV 47] ++ ([adF (xsM h2 u2) adK adV 0, adF (xsM h2 u2) adK adV 1, adF (xsM h2 u2) adK adV 2, adF (xsM h2 u2) adK adV 3, adF (xsM h2 u2) adK adV 4, adF (xsM h2 u2) adK adV 5, adF (xsM h2 u2) adK adV 6, adF (xsM h2 u2) adK adV 7, adF (xsM h2 u2) adK adV 8, adF (xsM h2 u2) adK adV 9, adF (xsM h2 u2) adK adV 10, adF (xsM h2 u2) adK adV 11, adF (xsM h2 u2) adK adV 12, adF (xsM h2 u2) adK adV 13, adF (xsM h2 u2) adK adV 14, adF (xsM h2 u2) adK adV 15, adF (xsM h2 u2) adK adV 16, adF (xsM h2 u2) adK adV 17, adF (xsM h2 u2) adK adV 18, adF (xsM h2 u2) adK adV 19, adF (xsM h2 u2) adK adV 20, adF (xsM h2 u2) adK adV 21, adF (xsM h2 u2) adK adV 22, adF (xsM h2 u2) adK adV 23, adF (xsM h2 u2) adK adV 24, adF (xsM h2 u2) adK adV 25] ++ [])
  simp only [ax_0, ax_1, ax_2, ax_3, ax_4, ax_5, ax_6, ax_7, ax_8, ax_9, ax_10, ax_11, ax_12, ax_13, ax_14, ax_15, ax_16, ax_17, ax_18, ax_19, ax_20, ax_21, ax_22, ax_23, ax_24, ax_25, ax_26, ax_27, ax_28, ax_29, ax_30, ax_31, ax_32, ax_33, ax_34, ax_35, ax_36, ax_37, ax_38, ax_39, ax_40, ax_41, ax_42, ax_43, ax_44, ax_45, ax_46, ax_47, am_0, am_1, am_2, am_3, am_4, am_5, am_6, am_7, am_8, am_9, am_10, am_11, am_12, am_13, am_14, am_15, am_16, am_17, am_18, am_19, am_20, am_21, am_22, am_23, am_24, am_25]
  rfl
