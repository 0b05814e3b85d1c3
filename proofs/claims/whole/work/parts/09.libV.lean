theorem chr_rng {x : Int} (h : 0 ≤ x ∧ x < 65536) : rng x := by unfold rng; omega
theorem rng_mask {x p : Int} (hp : 0 < p ∧ p ≤ 2147483647) : rng (x % p) := by
  have h1 := Int.emod_nonneg x (show p ≠ 0 by omega)
  have h2 := Int.emod_lt_of_pos x hp.1
  unfold rng
  omega
