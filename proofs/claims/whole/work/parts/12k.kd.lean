/-! the class's memory: one rule a kind of instruction -/
theorem kd_8 {k : Nat} (h : kd k = 8) : kd (k + 1) = 20 ∧ kd (k + 2) = 25 ∧ kd (k + 3) = 21 ∧ kd (k + 4) = 27 ∧ kd (k + 5) = 11 ∧ kd (k + 6) = 28 := by
  have hl := kd_lt (r := k) (by omega)
  have : ∀ k, k < 390 → kd k = 8 → kd (k + 1) = 20 ∧ kd (k + 2) = 25 ∧ kd (k + 3) = 21 ∧ kd (k + 4) = 27 ∧ kd (k + 5) = 11 ∧ kd (k + 6) = 28 := by decide +kernel
  exact this k hl h
theorem kd_ln {k : Nat} (h : kd k = 8) {j : Nat} (hj : j < 5) : kd (k + 23 + 2 * j) = 7 := by
  have hl := kd_lt (r := k) (by omega)
  have : ∀ k, k < 390 → kd k = 8 → ∀ j, j < 5 → kd (k + 23 + 2 * j) = 7 := by decide +kernel
  exact this k hl h j hj
theorem kd_11 {k : Nat} (h : kd k = 11) : kd (k + 1) = 28 := by
  have hl := kd_lt (r := k) (by omega)
  have : ∀ k, k < 390 → kd k = 11 → kd (k + 1) = 28 := by decide +kernel
  exact this k hl h
theorem kd_7 {k : Nat} (h : kd k = 7) : kd (k + 1) = 22 := by
  have hl := kd_lt (r := k) (by omega)
  have : ∀ k, k < 390 → kd k = 7 → kd (k + 1) = 22 := by decide +kernel
  exact this k hl h
theorem kd_1 {k : Nat} (h : kd k = 1) : kd (k + 1) = 20 ∧ kd (k + 2) = 20 ∧ kd (k + 3) = 25 ∧ kd (k + 4) = 25 := by
  have hl := kd_lt (r := k) (by omega)
  have : ∀ k, k < 390 → kd k = 1 → kd (k + 1) = 20 ∧ kd (k + 2) = 20 ∧ kd (k + 3) = 25 ∧ kd (k + 4) = 25 := by decide +kernel
  exact this k hl h
theorem kd_2 {k : Nat} (h : kd k = 2) : kd (k + 1) = 20 ∧ kd (k + 2) = 21 := by
  have hl := kd_lt (r := k) (by omega)
  have : ∀ k, k < 390 → kd k = 2 → kd (k + 1) = 20 ∧ kd (k + 2) = 21 := by decide +kernel
  exact this k hl h
theorem kd_5 {k : Nat} (h : kd k = 5) : kd (k + 1) = 21 ∧ kd (k + 2) = 20 ∧ kd (k + 3) = 20 ∧ kd (k + 4) = 23 ∧ kd (k + 5) = 23 ∧ kd (k + 6) = 23 := by
  have hl := kd_lt (r := k) (by omega)
  have : ∀ k, k < 390 → kd k = 5 → kd (k + 1) = 21 ∧ kd (k + 2) = 20 ∧ kd (k + 3) = 20 ∧ kd (k + 4) = 23 ∧ kd (k + 5) = 23 ∧ kd (k + 6) = 23 := by decide +kernel
  exact this k hl h
theorem kd_6 {k : Nat} (h : kd k = 6) : kd (k + 1) = 29 := by
  have hl := kd_lt (r := k) (by omega)
  have : ∀ k, k < 390 → kd k = 6 → kd (k + 1) = 29 := by decide +kernel
  exact this k hl h
theorem kd_9 {k : Nat} (h : kd k = 9) : kd (k + 1) = 26 ∧ kd (k + 2) = 30 ∧ kd (k + 3) = 24 := by
  have hl := kd_lt (r := k) (by omega)
  have : ∀ k, k < 390 → kd k = 9 → kd (k + 1) = 26 ∧ kd (k + 2) = 30 ∧ kd (k + 3) = 24 := by decide +kernel
  exact this k hl h
theorem kd_kept {j : Nat} (hj : j < 8) : kd (102 + 33 * j) = 8 := by
  have : ∀ j, j < 8 → kd (102 + 33 * j) = 8 := by decide +kernel
  exact this j hj
theorem kd_12 {k : Nat} (h : kd k = 12) : k = 0 := by
  have hl := kd_lt (r := k) (by omega)
  have : ∀ k, k < 390 → kd k = 12 → k = 0 := by decide +kernel
  exact this k hl h
