/-! all of it, and where it begins -/
theorem rel_0 : Rel M0X M0M := by
  refine ⟨(0, 0, fun _ => 0, fun _ => 0, fun _ => 0, fun _ => 0), 1, fun _ => 0, ⟨by decide, by decide, fun l hl => absurd hl (Nat.not_lt_zero l), fun l k hl => absurd hl (Nat.not_lt_zero l)⟩, ⟨rfl, rfl, rfl, fun l hl => absurd hl (Nat.not_lt_zero l), fun l hl => absurd hl (Nat.not_lt_zero l)⟩, ⟨rfl, rfl, rfl, fun l hl => absurd hl (Nat.not_lt_zero l), fun l hl => absurd hl (Nat.not_lt_zero l)⟩, rfl, Bk.zero rfl rfl, ⟨rfl, Or.inl rfl⟩, fun h hh => ?_, fun s hs => ?_, 0, by omega, rfl, rfl, fun i hi => absurd hi (Nat.not_lt_zero i)⟩
  · rcases (show h = 0 ∨ h = 1 ∨ h = 2 ∨ h = 3 by omega) with rfl | rfl | rfl | rfl <;> exact ⟨rfl, Or.inl rfl⟩
  · rcases (show s = 0 ∨ s = 1 ∨ s = 2 ∨ s = 3 by omega) with rfl | rfl | rfl | rfl <;> exact ⟨rfl, Or.inl rfl⟩
theorem pure_ok : ∃ (N : Nat) (Rel : Mem → Mem → Prop), PureOk N Rel := by
  have hN : 2000 ≤ 20000 := by omega
  exact ⟨20000, Rel, rel_0, s_0 hN, s_1 hN, s_2, s_3, s_4 hN, s_5, s_6 hN, s_7 hN, s_8 hN, s_9 hN, s_10 hN, s_11 hN, s_12 hN, s_13 hN, s_14 hN, s_15 hN, s_16 hN, s_17 hN, s_18 hN, s_19 hN, s_20 hN, s_21 hN, s_22 hN, s_23 hN, s_24 hN, s_25 (Nat.le_refl _), s_26 hN, s_27 hN, s_28 hN, s_29 hN, s_30, s_31 hN, s_32, s_33 hN, s_34, s_35 hN, s_36 hN, s_37, s_38, s_39 hN, s_40 hN, s_41 hN, s_42 hN⟩
