theorem l_lt {i N k : Nat} (h : i + 6 ≤ N) (hk : Nat.ble (k + 1) 6 = true) : i + k < N := by
  have hq := Nat.le_of_ble_eq_true hk
  omega
theorem l_le {x t M a b : Nat} (h : x + t ≤ M) (hk : Nat.ble (a + b) t = true) : x + a + b ≤ M := by
  have hq := Nat.le_of_ble_eq_true hk
  omega
