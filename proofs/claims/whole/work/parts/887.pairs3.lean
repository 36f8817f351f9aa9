def cM (K : Nat) (l : List Nat) : Nat := l.foldl (fun n E => cond (Nat.beq (Nat.land E K) 0) (n + 1) n) 0
theorem cM_a : ∀ i, i < 11 → ∀ j, j < i → ∀ k, k < j → ∀ l, l < k → Nat.ble (cM (2 ^ i + 2 ^ j + 2 ^ k + 2 ^ l) rgL) 54 = true := by decide +kernel
theorem cM_11 : ∀ j, j < 11 → ∀ k, k < j → ∀ l, l < k → Nat.ble (cM (2 ^ 11 + 2 ^ j + 2 ^ k + 2 ^ l) rgL) 54 = true := by decide +kernel
theorem cM_12 : ∀ j, j < 12 → ∀ k, k < j → ∀ l, l < k → Nat.ble (cM (2 ^ 12 + 2 ^ j + 2 ^ k + 2 ^ l) rgL) 54 = true := by decide +kernel
theorem cM_13 : ∀ j, j < 13 → ∀ k, k < j → ∀ l, l < k → Nat.ble (cM (2 ^ 13 + 2 ^ j + 2 ^ k + 2 ^ l) rgL) 54 = true := by decide +kernel
theorem cM_14 : ∀ j, j < 14 → ∀ k, k < j → ∀ l, l < k → Nat.ble (cM (2 ^ 14 + 2 ^ j + 2 ^ k + 2 ^ l) rgL) 54 = true := by decide +kernel
