/-! the first state keeps to the kinds -/
theorem kd_28 : ∀ r, r < 391 → kd r = 28 → ∀ i, i < 16 → kd (r + 1 + i) = 10 := by decide +kernel
theorem okv_0 {K i : Nat} (h : K ≠ 28) : okv K i 0 := by
  unfold okv
  split
  · exact absurd rfl h
  · exact ⟨by decide, by decide⟩
  · exact Or.inl rfl
  · exact ⟨by decide, by decide⟩
  · exact trivial
  · exact ⟨rng_0, fun _ => Or.inl rfl⟩
  · exact ⟨rng_0, fun _ => Or.inl rfl⟩
  · exact ⟨rng_0, fun _ => Or.inl rfl⟩
  · exact rng_0
theorem wfc_0 (ab : Nat) : wfc (s0 ab) := fun r i => by
  unfold s0
  by_cases h7 : kd r = 7
  · rw [if_pos h7, h7]
    show rng _ ∧ (i = 5 → bit _)
    by_cases h : i = 0 ∨ i = 2 ∨ i = 4
    · rw [if_pos h]; exact ⟨⟨by decide, by decide⟩, fun _ => Or.inr rfl⟩
    · rw [if_neg h]; exact ⟨rng_0, fun _ => Or.inl rfl⟩
  · rw [if_neg h7]
    by_cases h28 : kd r = 28
    · rw [if_pos h28, h28]
      have hr : r < 391 := Nat.lt_trans (kd_lt (by omega)) (by decide)
      show (0 : Int) ≤ _ ∧ kd _ = 10
      by_cases hi : i < 16
      · rw [if_pos hi]
        have e : ((r : Int) + 1 + (i : Int)).toNat = r + 1 + i := by omega
        rw [e]
        exact ⟨by omega, kd_28 r hr h28 i hi⟩
      · rw [if_neg hi]
        have e : ((r : Int) + 1).toNat = r + 1 + 0 := by omega
        rw [e]
        exact ⟨by omega, kd_28 r hr h28 0 (by decide)⟩
    · rw [if_neg h28]
      by_cases h30 : kd r = 30
      · rw [if_pos h30, h30]
        exact ⟨by decide, by decide⟩
      · rw [if_neg h30]
        by_cases h12 : kd r = 12
        · rw [if_pos h12, h12]
          show rng _ ∧ (i = 3 → bit _)
          by_cases h : i = 10 ∨ i = 11
          · rw [if_pos h]
            exact ⟨⟨by decide, by decide⟩, fun e => absurd h (by omega)⟩
          · rw [if_neg h]; exact ⟨rng_0, fun _ => Or.inl rfl⟩
        · rw [if_neg h12]
          by_cases h40 : kd r = 40
          · rw [if_pos h40, h40]
            exact trivial
          · rw [if_neg h40]
            exact okv_0 h28
theorem wfm_0 : wfm m0 := fun r i => by
  unfold m0
  split
  · exact ⟨by decide, by decide⟩
  · exact rng_0
theorem wfL_0 (ab : Nat) : wfL (s0 ab, m0, 0, 0) := ⟨wfc_0 ab, wfm_0, rng_0⟩
