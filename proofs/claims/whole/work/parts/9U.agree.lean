/-! agreement of class and model, part 9U -/
/-! each case of the law keeps both alike -/
section LC
variable {K : Int} {σ : SL} {sq : Nat} {xs : Nat → Int32} {N : Nat} {rec : SL → Int → Option Unit} {i : Int}
theorem m_isRaining {μ s : Sm} (I : INV K s μ) : f_X13_isRaining μ = some (upm μ 11 0 0, μ 1 6) := by
  show ((if μ 1 6 = 1 then some (upm μ 11 0 0, 1) else some (upm μ 11 0 0, 0)) : Option (Sm × Int)) = _
  rcases I.gi.ra with e | e
  · rw [if_neg (by omega), e]
  · rw [if_pos e, e]
theorem law_0 (I : INV K σ.1 σ.2.1) (hK : K + 16 ≤ 80000) (hN : 40000000000 < N) (hi : 0 ≤ i ∧ i + 4 < (sq : Int)) (hr : LR (K + 16) rec i) : f_law_0 sq xs N rec σ i = some () := by
  unfold f_law_0
  rw [if_pos (by omega)]
  exact lw_ok (fm := fun m => f_X13_addStop N m (scv xs (i + 1))) _ (op_addStop I (by omega) (by omega) (scv xs (i + 1))) rfl (fun _ _ => rfl) (by intro s r z c hm hz; simp only [List.mem_cons, Prod.mk.injEq, List.not_mem_nil, or_false] at hm; rcases hm with ⟨rfl, rfl⟩ | ⟨rfl, rfl⟩ <;> exact ⟨by decide, rfl⟩) (by omega) hK hr
theorem law_1 (I : INV K σ.1 σ.2.1) (hK : K + 16 ≤ 80000) (hN : 40000000000 < N) (hi : 0 ≤ i ∧ i + 4 < (sq : Int)) (hr : LR (K + 16) rec i) : f_law_1 sq xs N rec σ i = some () := by
  unfold f_law_1
  rw [if_pos (by omega), if_pos (by omega), if_pos (by omega)]
  exact lw_ok (fm := fun m => f_X13_addWalk N m (scv xs (i + 1)) (scv xs (i + 2)) (scv xs (i + 3))) _ (op_addWalk I (by omega) (by omega) (scv xs (i + 1)) (scv xs (i + 2)) (scv xs (i + 3))) rfl (fun _ _ => rfl) (by intro s r z c hm hz; simp only [List.mem_cons, Prod.mk.injEq, List.not_mem_nil, or_false] at hm; rcases hm with ⟨rfl, rfl⟩ | ⟨rfl, rfl⟩ | ⟨rfl, rfl⟩ <;> exact ⟨by decide, rfl⟩) (by omega) hK hr
theorem law_2 (I : INV K σ.1 σ.2.1) (hK : K + 16 ≤ 80000) (hN : 40000000000 < N) (hi : 0 ≤ i ∧ i + 4 < (sq : Int)) (hr : LR (K + 16) rec i) : f_law_2 sq xs N rec σ i = some () := by
  unfold f_law_2
  rw [if_pos (by omega), if_pos (by omega)]
  exact lw_ok (fm := fun m => f_X13_removeWalk N m (scv xs (i + 1)) (scv xs (i + 2))) _ (op_removeWalk I (by omega) (by omega) (scv xs (i + 1)) (scv xs (i + 2))) rfl (fun _ _ => rfl) (by intro s r z c hm hz; simp only [List.mem_cons, Prod.mk.injEq, List.not_mem_nil, or_false] at hm; rcases hm with ⟨rfl, rfl⟩ | ⟨rfl, rfl⟩ <;> exact ⟨by decide, rfl⟩) (by omega) hK hr
theorem law_3 (I : INV K σ.1 σ.2.1) (hK : K + 16 ≤ 80000) (hN : 40000000000 < N) (hi : 0 ≤ i ∧ i + 4 < (sq : Int)) (hr : LR (K + 16) rec i) : f_law_3 sq xs N rec σ i = some () := by
  unfold f_law_3
  rw [if_pos (by omega), if_pos (by omega), if_pos (by omega), if_pos (by omega)]
  exact lw_ok (fm := fun m => f_X13_addLine N m (scv xs (i + 1)) (scv xs (i + 2)) (scv xs (i + 3)) (scv xs (i + 4))) _ (op_addLine I (by omega) (by omega) (scv xs (i + 1)) (scv xs (i + 2)) (scv xs (i + 3)) (scv xs (i + 4))) rfl (fun _ _ => rfl) (by intro s r z c hm hz; simp only [List.mem_cons, Prod.mk.injEq, List.not_mem_nil, or_false] at hm; rcases hm with ⟨rfl, rfl⟩ | ⟨rfl, rfl⟩ <;> exact ⟨by decide, rfl⟩) (by omega) hK hr
theorem law_4 (I : INV K σ.1 σ.2.1) (hK : K + 16 ≤ 80000) (hN : 40000000000 < N) (hi : 0 ≤ i ∧ i + 4 < (sq : Int)) (hr : LR (K + 16) rec i) : f_law_4 sq xs N rec σ i = some () := by
  unfold f_law_4
  rw [if_pos (by omega), if_pos (by omega)]
  exact lw_ok (fm := fun m => f_X13_extendLine N m (scv xs (i + 1)) (scv xs (i + 2))) _ (op_extendLine I (by omega) (by omega) (scv xs (i + 1)) (scv xs (i + 2))) rfl (fun _ _ => rfl) (by intro s r z c hm hz; simp only [List.mem_cons, Prod.mk.injEq, List.not_mem_nil, or_false] at hm; rcases hm with ⟨rfl, rfl⟩ | ⟨rfl, rfl⟩ | ⟨rfl, rfl⟩ <;> exact ⟨by decide, rfl⟩) (by omega) hK hr
theorem law_5 (I : INV K σ.1 σ.2.1) (hK : K + 16 ≤ 80000) (hN : 40000000000 < N) (hi : 0 ≤ i ∧ i + 4 < (sq : Int)) (hr : LR (K + 16) rec i) : f_law_5 sq xs N rec σ i = some () := by
  unfold f_law_5
  rw [if_pos (by omega)]
  exact lw_ok (fm := fun m => f_X13_shortenLine N m (scv xs (i + 1))) _ (op_shortenLine I (by omega) (by omega) (scv xs (i + 1))) rfl (fun _ _ => rfl) (by intro s r z c hm hz; simp only [List.mem_cons, Prod.mk.injEq, List.not_mem_nil, or_false] at hm; rcases hm with ⟨rfl, rfl⟩ | ⟨rfl, rfl⟩ | ⟨rfl, rfl⟩ <;> exact ⟨by decide, rfl⟩) (by omega) hK hr
theorem law_6 (I : INV K σ.1 σ.2.1) (hK : K + 16 ≤ 80000) (hN : 40000000000 < N) (hi : 0 ≤ i ∧ i + 4 < (sq : Int)) (hr : LR (K + 16) rec i) : f_law_6 sq xs N rec σ i = some () := by
  unfold f_law_6
  rw [if_pos (by omega)]
  by_cases e : scv xs (i + 1) = 0
  · simp only [if_pos e]
    exact lw_chg (f2 := fun m => f_X13_setRain N m 0) (K := K + 1) (op_setRain I (by omega) (by omega) (v := 0) (by unfold bit; decide)) (by omega) hK hr
  · simp only [if_neg e]
    exact lw_chg (f2 := fun m => f_X13_setRain N m 1) (K := K + 1) (op_setRain I (by omega) (by omega) (v := 1) (by unfold bit; decide)) (by omega) hK hr
theorem law_7 (I : INV K σ.1 σ.2.1) (hK : K + 16 ≤ 80000) (hN : 40000000000 < N) (hi : 0 ≤ i ∧ i + 4 < (sq : Int)) (hr : LR (K + 16) rec i) : f_law_7 sq xs N rec σ i = some () := by
  unfold f_law_7
  rw [if_pos (by omega), if_pos (by omega)]
  exact lw_ok (fm := fun m => f_X13_setRainDelay N m (scv xs (i + 1)) (scv xs (i + 2))) _ (op_setRainDelay I (by omega) (by omega) (scv xs (i + 1)) (scv xs (i + 2))) rfl (fun _ _ => rfl) (by intro s r z c hm hz; simp only [List.mem_cons, Prod.mk.injEq, List.not_mem_nil, or_false] at hm; rcases hm with ⟨rfl, rfl⟩ | ⟨rfl, rfl⟩ <;> exact ⟨by decide, rfl⟩) (by omega) hK hr
theorem law_8 (I : INV K σ.1 σ.2.1) (hK : K + 16 ≤ 80000) (hN : 40000000000 < N) (hi : 0 ≤ i ∧ i + 4 < (sq : Int)) (hr : LR (K + 16) rec i) : f_law_8 sq xs N rec σ i = some () := by
  unfold f_law_8
  rw [if_pos (by omega), if_pos (by omega)]
  by_cases e : scv xs (i + 2) = 0
  · simp only [if_pos e]
    exact lw_bit (fm := fun m => f_X13_setClosed N m (scv xs (i + 1)) 0) _ (op_setClosed I (by omega) (by omega) _ (v := 0) (by unfold bit; decide)) rfl (fun _ _ => rfl) (by intro s r z c hm hz; simp only [List.mem_cons, Prod.mk.injEq, List.not_mem_nil, or_false] at hm; rcases hm with ⟨rfl, rfl⟩ <;> exact ⟨by decide, rfl⟩) (by omega) hK hr
  · simp only [if_neg e]
    exact lw_bit (fm := fun m => f_X13_setClosed N m (scv xs (i + 1)) 1) _ (op_setClosed I (by omega) (by omega) _ (v := 1) (by unfold bit; decide)) rfl (fun _ _ => rfl) (by intro s r z c hm hz; simp only [List.mem_cons, Prod.mk.injEq, List.not_mem_nil, or_false] at hm; rcases hm with ⟨rfl, rfl⟩ <;> exact ⟨by decide, rfl⟩) (by omega) hK hr
theorem law_9 (I : INV K σ.1 σ.2.1) (hK : K + 16 ≤ 80000) (hN : 40000000000 < N) (hi : 0 ≤ i ∧ i + 4 < (sq : Int)) (hr : LR (K + 16) rec i) : f_law_9 sq xs N rec σ i = some () := by
  unfold f_law_9
  rw [if_pos (by omega), if_pos (by omega)]
  by_cases e : scv xs (i + 2) = 0
  · simp only [if_pos e]
    exact lw_bit (fm := fun m => f_X13_setSuspended N m (scv xs (i + 1)) 0) _ (op_setSuspended I (by omega) (by omega) _ (v := 0) (by unfold bit; decide)) rfl (fun _ _ => rfl) (by intro s r z c hm hz; simp only [List.mem_cons, Prod.mk.injEq, List.not_mem_nil, or_false] at hm; rcases hm with ⟨rfl, rfl⟩ <;> exact ⟨by decide, rfl⟩) (by omega) hK hr
  · simp only [if_neg e]
    exact lw_bit (fm := fun m => f_X13_setSuspended N m (scv xs (i + 1)) 1) _ (op_setSuspended I (by omega) (by omega) _ (v := 1) (by unfold bit; decide)) rfl (fun _ _ => rfl) (by intro s r z c hm hz; simp only [List.mem_cons, Prod.mk.injEq, List.not_mem_nil, or_false] at hm; rcases hm with ⟨rfl, rfl⟩ <;> exact ⟨by decide, rfl⟩) (by omega) hK hr
theorem law_10 (I : INV K σ.1 σ.2.1) (hK : K + 16 ≤ 80000) (hN : 40000000000 < N) (hi : 0 ≤ i ∧ i + 4 < (sq : Int)) (hr : LR (K + 16) rec i) : f_law_10 sq xs N rec σ i = some () := by
  unfold f_law_10
  rw [if_pos (by omega), if_pos (by omega), if_pos (by omega), if_pos (by omega)]
  exact lw_ok (fm := fun m => f_X13_sellTicket N m (scv xs (i + 1)) (scv xs (i + 2)) (scv xs (i + 3)) (scv xs (i + 4))) _ (op_sellTicket I (by omega) (by omega) (scv xs (i + 1)) (scv xs (i + 2)) (scv xs (i + 3)) (scv xs (i + 4))) rfl (fun _ _ => rfl) (by intro s r z c hm hz; simp only [List.mem_cons, Prod.mk.injEq, List.not_mem_nil, or_false] at hm; rcases hm with ⟨rfl, rfl⟩ | ⟨rfl, rfl⟩ | ⟨rfl, rfl⟩ | ⟨rfl, rfl⟩ <;> exact ⟨by decide, rfl⟩) (by omega) hK hr
theorem law_11 (I : INV K σ.1 σ.2.1) (hK : K + 16 ≤ 80000) (hN : 40000000000 < N) (hi : 0 ≤ i ∧ i + 4 < (sq : Int)) (hr : LR (K + 16) rec i) : f_law_11 sq xs N rec σ i = some () := by
  unfold f_law_11
  rw [if_pos (by omega)]
  exact lw_ok (fm := fun m => f_X13_refund N m (scv xs (i + 1))) _ (op_refund I (by omega) (by omega) (scv xs (i + 1))) rfl (fun _ _ => rfl) (by intro s r z c hm hz; simp only [List.mem_cons, Prod.mk.injEq, List.not_mem_nil, or_false] at hm; rcases hm with ⟨rfl, rfl⟩ <;> exact ⟨by decide, rfl⟩) (by omega) hK hr
theorem law_12 (I : INV K σ.1 σ.2.1) (hK : K + 16 ≤ 80000) (hN : 40000000000 < N) (hi : 0 ≤ i ∧ i + 4 < (sq : Int)) (hr : LR (K + 16) rec i) : f_law_12 sq xs N rec σ i = some () := by
  unfold f_law_12
  rw [if_pos (by omega)]
  exact lw_ok (fm := fun m => f_X13_advance N m (scv xs (i + 1))) _ (op_advance I (by omega) (by omega) (scv xs (i + 1))) rfl (fun _ _ => rfl) (by intro s r z c hm hz; simp only [List.mem_cons, Prod.mk.injEq, List.not_mem_nil, or_false] at hm; rcases hm with ⟨rfl, rfl⟩ <;> exact ⟨by decide, rfl⟩) (by omega) hK hr
theorem law_13 (I : INV K σ.1 σ.2.1) (hK : K + 16 ≤ 80000) (hN : 40000000000 < N) (hi : 0 ≤ i ∧ i + 4 < (sq : Int)) (hr : LR (K + 16) rec i) : f_law_13 sq xs N rec σ i = some () := by
  unfold f_law_13
  exact lw_plain (congrArg some I.nr.mi : some (σ.1 1 0) = some (σ.2.1 1 5)) rfl (qI I 0) (by omega) hK hr
theorem law_14 (I : INV K σ.1 σ.2.1) (hK : K + 16 ≤ 80000) (hN : 40000000000 < N) (hi : 0 ≤ i ∧ i + 4 < (sq : Int)) (hr : LR (K + 16) rec i) : f_law_14 sq xs N rec σ i = some () := by
  unfold f_law_14
  exact lw_plain (congrArg some I.nr.ra : some (σ.1 1 1) = some (σ.2.1 1 6)) (m_isRaining I) (qI I 0) (by omega) hK hr
theorem law_15 (I : INV K σ.1 σ.2.1) (hK : K + 16 ≤ 80000) (hN : 40000000000 < N) (hi : 0 ≤ i ∧ i + 4 < (sq : Int)) (hr : LR (K + 16) rec i) : f_law_15 sq xs N rec σ i = some () := by
  unfold f_law_15
  exact lw_plain (congrArg some I.nr.st : some (σ.1 1 2) = some (σ.2.1 1 0)) rfl (qI I 0) (by omega) hK hr
theorem law_16 (I : INV K σ.1 σ.2.1) (hK : K + 16 ≤ 80000) (hN : 40000000000 < N) (hi : 0 ≤ i ∧ i + 4 < (sq : Int)) (hr : LR (K + 16) rec i) : f_law_16 sq xs N rec σ i = some () := by
  unfold f_law_16
  rw [if_pos (by omega)]
  exact lw_ok (fm := fun m => f_X13_transferMinutes m (scv xs (i + 1))) _ (op_transferMinutes I (scv xs (i + 1))) rfl (fun _ _ => rfl) (by intro s r z c hm hz; simp only [List.mem_cons, Prod.mk.injEq, List.not_mem_nil, or_false] at hm; rcases hm with ⟨rfl, rfl⟩ <;> exact ⟨by decide, rfl⟩) (by omega) hK hr
theorem law_17 (I : INV K σ.1 σ.2.1) (hK : K + 16 ≤ 80000) (hN : 40000000000 < N) (hi : 0 ≤ i ∧ i + 4 < (sq : Int)) (hr : LR (K + 16) rec i) : f_law_17 sq xs N rec σ i = some () := by
  unfold f_law_17
  rw [if_pos (by omega)]
  exact lw_bit (fm := fun m => f_X13_isClosed m (scv xs (i + 1))) _ (op_isClosed I (scv xs (i + 1))) rfl (fun _ _ => rfl) (by intro s r z c hm hz; simp only [List.mem_cons, Prod.mk.injEq, List.not_mem_nil, or_false] at hm; rcases hm with ⟨rfl, rfl⟩ <;> exact ⟨by decide, rfl⟩) (by omega) hK hr
theorem law_18 (I : INV K σ.1 σ.2.1) (hK : K + 16 ≤ 80000) (hN : 40000000000 < N) (hi : 0 ≤ i ∧ i + 4 < (sq : Int)) (hr : LR (K + 16) rec i) : f_law_18 sq xs N rec σ i = some () := by
  unfold f_law_18
  rw [if_pos (by omega), if_pos (by omega)]
  exact lw_ok (fm := fun m => f_X13_walkMinutes m (scv xs (i + 1)) (scv xs (i + 2))) _ (op_walkMinutes I (scv xs (i + 1)) (scv xs (i + 2))) rfl (fun _ _ => rfl) (by intro s r z c hm hz; simp only [List.mem_cons, Prod.mk.injEq, List.not_mem_nil, or_false] at hm; rcases hm with ⟨rfl, rfl⟩ | ⟨rfl, rfl⟩ <;> exact ⟨by decide, rfl⟩) (by omega) hK hr
theorem law_19 (I : INV K σ.1 σ.2.1) (hK : K + 16 ≤ 80000) (hN : 40000000000 < N) (hi : 0 ≤ i ∧ i + 4 < (sq : Int)) (hr : LR (K + 16) rec i) : f_law_19 sq xs N rec σ i = some () := by
  unfold f_law_19
  exact lw_plain (congrArg some I.nr.ln : some (σ.1 1 7) = some (σ.2.1 1 2)) rfl (qI I 0) (by omega) hK hr
theorem law_20 (I : INV K σ.1 σ.2.1) (hK : K + 16 ≤ 80000) (hN : 40000000000 < N) (hi : 0 ≤ i ∧ i + 4 < (sq : Int)) (hr : LR (K + 16) rec i) : f_law_20 sq xs N rec σ i = some () := by
  unfold f_law_20
  rw [if_pos (by omega)]
  exact lw_ok (fm := fun m => f_X13_ringSize m (scv xs (i + 1))) _ (op_ringSize I (scv xs (i + 1))) rfl (fun _ _ => rfl) (by intro s r z c hm hz; simp only [List.mem_cons, Prod.mk.injEq, List.not_mem_nil, or_false] at hm; rcases hm with ⟨rfl, rfl⟩ <;> exact ⟨by decide, rfl⟩) (by omega) hK hr
theorem law_21 (I : INV K σ.1 σ.2.1) (hK : K + 16 ≤ 80000) (hN : 40000000000 < N) (hi : 0 ≤ i ∧ i + 4 < (sq : Int)) (hr : LR (K + 16) rec i) : f_law_21 sq xs N rec σ i = some () := by
  unfold f_law_21
  rw [if_pos (by omega), if_pos (by omega)]
  exact lw_ok (fm := fun m => f_X13_stopAt m (scv xs (i + 1)) (scv xs (i + 2))) _ (op_stopAt I (scv xs (i + 1)) (scv xs (i + 2))) rfl (fun _ _ => rfl) (by intro s r z c hm hz; simp only [List.mem_cons, Prod.mk.injEq, List.not_mem_nil, or_false] at hm; rcases hm with ⟨rfl, rfl⟩ | ⟨rfl, rfl⟩ <;> exact ⟨by decide, rfl⟩) (by omega) hK hr
theorem law_22 (I : INV K σ.1 σ.2.1) (hK : K + 16 ≤ 80000) (hN : 40000000000 < N) (hi : 0 ≤ i ∧ i + 4 < (sq : Int)) (hr : LR (K + 16) rec i) : f_law_22 sq xs N rec σ i = some () := by
  unfold f_law_22
  rw [if_pos (by omega), if_pos (by omega)]
  exact lw_ok (fm := fun m => f_X13_positionOf N m (scv xs (i + 1)) (scv xs (i + 2))) _ (op_positionOf I (by omega) (scv xs (i + 1)) (scv xs (i + 2))) rfl (fun _ _ => rfl) (by intro s r z c hm hz; simp only [List.mem_cons, Prod.mk.injEq, List.not_mem_nil, or_false] at hm; rcases hm with ⟨rfl, rfl⟩ | ⟨rfl, rfl⟩ <;> exact ⟨by decide, rfl⟩) (by omega) hK hr
theorem law_23 (I : INV K σ.1 σ.2.1) (hK : K + 16 ≤ 80000) (hN : 40000000000 < N) (hi : 0 ≤ i ∧ i + 4 < (sq : Int)) (hr : LR (K + 16) rec i) : f_law_23 sq xs N rec σ i = some () := by
  unfold f_law_23
  rw [if_pos (by omega)]
  exact lw_ok (fm := fun m => f_X13_hopMinutes m (scv xs (i + 1))) _ (op_hopMinutes I (scv xs (i + 1))) rfl (fun _ _ => rfl) (by intro s r z c hm hz; simp only [List.mem_cons, Prod.mk.injEq, List.not_mem_nil, or_false] at hm; rcases hm with ⟨rfl, rfl⟩ <;> exact ⟨by decide, rfl⟩) (by omega) hK hr
theorem law_24 (I : INV K σ.1 σ.2.1) (hK : K + 16 ≤ 80000) (hN : 40000000000 < N) (hi : 0 ≤ i ∧ i + 4 < (sq : Int)) (hr : LR (K + 16) rec i) : f_law_24 sq xs N rec σ i = some () := by
  unfold f_law_24
  rw [if_pos (by omega)]
  exact lw_bit (fm := fun m => f_X13_runs m (scv xs (i + 1))) _ (op_runs I (scv xs (i + 1))) rfl (fun _ _ => rfl) (by intro s r z c hm hz; simp only [List.mem_cons, Prod.mk.injEq, List.not_mem_nil, or_false] at hm; rcases hm with ⟨rfl, rfl⟩ <;> exact ⟨by decide, rfl⟩) (by omega) hK hr
theorem law_25 (I : INV K σ.1 σ.2.1) (hK : K + 16 ≤ 80000) (hN : 40000000000 < N) (hi : 0 ≤ i ∧ i + 4 < (sq : Int)) (hr : LR (K + 16) rec i) : f_law_25 sq xs N rec σ i = some () := by
  unfold f_law_25
  rw [if_pos (by omega), if_pos (by omega), if_pos (by omega)]
  exact lw_ok (fm := fun m => f_X13_tripMinute m (scv xs (i + 1)) (scv xs (i + 2)) (scv xs (i + 3))) _ (op_tripMinute I (scv xs (i + 1)) (scv xs (i + 2)) (scv xs (i + 3))) rfl (fun _ _ => rfl) (by intro s r z c hm hz; simp only [List.mem_cons, Prod.mk.injEq, List.not_mem_nil, or_false] at hm; rcases hm with ⟨rfl, rfl⟩ | ⟨rfl, rfl⟩ | ⟨rfl, rfl⟩ <;> exact ⟨by decide, rfl⟩) (by omega) hK hr
theorem law_26 (I : INV K σ.1 σ.2.1) (hK : K + 16 ≤ 80000) (hN : 40000000000 < N) (hi : 0 ≤ i ∧ i + 4 < (sq : Int)) (hr : LR (K + 16) rec i) : f_law_26 sq xs N rec σ i = some () := by
  unfold f_law_26
  rw [if_pos (by omega), if_pos (by omega), if_pos (by omega)]
  exact lw_ok (fm := fun m => f_X13_nextTrip m (scv xs (i + 1)) (scv xs (i + 2)) (scv xs (i + 3))) _ (op_nextTrip I (scv xs (i + 1)) (scv xs (i + 2)) (scv xs (i + 3))) rfl (fun _ _ => rfl) (by intro s r z c hm hz; simp only [List.mem_cons, Prod.mk.injEq, List.not_mem_nil, or_false] at hm; rcases hm with ⟨rfl, rfl⟩ | ⟨rfl, rfl⟩ | ⟨rfl, rfl⟩ <;> exact ⟨by decide, rfl⟩) (by omega) hK hr
theorem law_27 (I : INV K σ.1 σ.2.1) (hK : K + 16 ≤ 80000) (hN : 40000000000 < N) (hi : 0 ≤ i ∧ i + 4 < (sq : Int)) (hr : LR (K + 16) rec i) : f_law_27 sq xs N rec σ i = some () := by
  unfold f_law_27
  rw [if_pos (by omega), if_pos (by omega), if_pos (by omega)]
  exact lw_ok (fm := fun m => f_X13_nextTripBySearch m (scv xs (i + 1)) (scv xs (i + 2)) (scv xs (i + 3))) _ (op_nextTripBySearch I (by omega) (scv xs (i + 1)) (scv xs (i + 2)) (scv xs (i + 3))) rfl (fun _ _ => rfl) (by intro s r z c hm hz; simp only [List.mem_cons, Prod.mk.injEq, List.not_mem_nil, or_false] at hm; rcases hm with ⟨rfl, rfl⟩ | ⟨rfl, rfl⟩ | ⟨rfl, rfl⟩ <;> exact ⟨by decide, rfl⟩) (by omega) hK hr
theorem law_28 (I : INV K σ.1 σ.2.1) (hK : K + 16 ≤ 80000) (hN : 40000000000 < N) (hi : 0 ≤ i ∧ i + 4 < (sq : Int)) (hr : LR (K + 16) rec i) : f_law_28 sq xs N rec σ i = some () := by
  unfold f_law_28
  rw [if_pos (by omega), if_pos (by omega), if_pos (by omega)]
  exact lw_ok (fm := fun m => f_X13_earliestArrival N m (scv xs (i + 1)) (scv xs (i + 2)) (scv xs (i + 3))) _ (op_earliestArrival I (scv xs (i + 1)) (scv xs (i + 2)) (scv xs (i + 3)) (by omega)) rfl (fun _ _ => rfl) (by intro s r z c hm hz; simp only [List.mem_cons, Prod.mk.injEq, List.not_mem_nil, or_false] at hm; rcases hm with ⟨rfl, rfl⟩ | ⟨rfl, rfl⟩ | ⟨rfl, rfl⟩ <;> exact ⟨by decide, rfl⟩) (by omega) hK hr
theorem law_29 (I : INV K σ.1 σ.2.1) (hK : K + 16 ≤ 80000) (hN : 40000000000 < N) (hi : 0 ≤ i ∧ i + 4 < (sq : Int)) (hr : LR (K + 16) rec i) : f_law_29 sq xs N rec σ i = some () := by
  unfold f_law_29
  rw [if_pos (by omega), if_pos (by omega), if_pos (by omega)]
  exact lw_ok (fm := fun m => f_X13_earliestArrivalByRounds N m (scv xs (i + 1)) (scv xs (i + 2)) (scv xs (i + 3))) _ (op_earliestArrivalByRounds I (scv xs (i + 1)) (scv xs (i + 2)) (scv xs (i + 3)) (by omega)) rfl (fun _ _ => rfl) (by intro s r z c hm hz; simp only [List.mem_cons, Prod.mk.injEq, List.not_mem_nil, or_false] at hm; rcases hm with ⟨rfl, rfl⟩ | ⟨rfl, rfl⟩ | ⟨rfl, rfl⟩ <;> exact ⟨by decide, rfl⟩) (by omega) hK hr
theorem law_30 (I : INV K σ.1 σ.2.1) (hK : K + 16 ≤ 80000) (hN : 40000000000 < N) (hi : 0 ≤ i ∧ i + 4 < (sq : Int)) (hr : LR (K + 16) rec i) : f_law_30 sq xs N rec σ i = some () := by
  unfold f_law_30
  rw [if_pos (by omega), if_pos (by omega)]
  exact lw_ok (fm := fun m => f_X13_fewestBoardings N m (scv xs (i + 1)) (scv xs (i + 2))) _ (op_fewestBoardings I (scv xs (i + 1)) (scv xs (i + 2)) (by omega)) rfl (fun _ _ => rfl) (by intro s r z c hm hz; simp only [List.mem_cons, Prod.mk.injEq, List.not_mem_nil, or_false] at hm; rcases hm with ⟨rfl, rfl⟩ | ⟨rfl, rfl⟩ <;> exact ⟨by decide, rfl⟩) (by omega) hK hr
theorem law_31 (I : INV K σ.1 σ.2.1) (hK : K + 16 ≤ 80000) (hN : 40000000000 < N) (hi : 0 ≤ i ∧ i + 4 < (sq : Int)) (hr : LR (K + 16) rec i) : f_law_31 sq xs N rec σ i = some () := by
  unfold f_law_31
  rw [if_pos (by omega), if_pos (by omega)]
  exact lw_ok (fm := fun m => f_X13_fewestBoardingsByTable N m (scv xs (i + 1)) (scv xs (i + 2))) _ (op_fewestBoardingsByTable I (scv xs (i + 1)) (scv xs (i + 2)) (by omega)) rfl (fun _ _ => rfl) (by intro s r z c hm hz; simp only [List.mem_cons, Prod.mk.injEq, List.not_mem_nil, or_false] at hm; rcases hm with ⟨rfl, rfl⟩ | ⟨rfl, rfl⟩ <;> exact ⟨by decide, rfl⟩) (by omega) hK hr
theorem law_32 (I : INV K σ.1 σ.2.1) (hK : K + 16 ≤ 80000) (hN : 40000000000 < N) (hi : 0 ≤ i ∧ i + 4 < (sq : Int)) (hr : LR (K + 16) rec i) : f_law_32 sq xs N rec σ i = some () := by
  unfold f_law_32
  rw [if_pos (by omega), if_pos (by omega)]
  exact lw_ok (fm := fun m => f_X13_flow N m (scv xs (i + 1)) (scv xs (i + 2))) _ (op_flow I (scv xs (i + 1)) (scv xs (i + 2)) (by omega)) rfl (fun _ _ => rfl) (by intro s r z c hm hz; simp only [List.mem_cons, Prod.mk.injEq, List.not_mem_nil, or_false] at hm; rcases hm with ⟨rfl, rfl⟩ | ⟨rfl, rfl⟩ <;> exact ⟨by decide, rfl⟩) (by omega) hK hr
theorem law_33 (I : INV K σ.1 σ.2.1) (hK : K + 16 ≤ 80000) (hN : 40000000000 < N) (hi : 0 ≤ i ∧ i + 4 < (sq : Int)) (hr : LR (K + 16) rec i) : f_law_33 sq xs N rec σ i = some () := by
  unfold f_law_33
  rw [if_pos (by omega), if_pos (by omega)]
  exact lw_ok (fm := fun m => f_X13_smallestCut N m (scv xs (i + 1)) (scv xs (i + 2))) _ (op_smallestCut I (scv xs (i + 1)) (scv xs (i + 2)) (by omega)) rfl (fun _ _ => rfl) (by intro s r z c hm hz; simp only [List.mem_cons, Prod.mk.injEq, List.not_mem_nil, or_false] at hm; rcases hm with ⟨rfl, rfl⟩ | ⟨rfl, rfl⟩ <;> exact ⟨by decide, rfl⟩) (by omega) hK hr
theorem law_34 (I : INV K σ.1 σ.2.1) (hK : K + 16 ≤ 80000) (hN : 40000000000 < N) (hi : 0 ≤ i ∧ i + 4 < (sq : Int)) (hr : LR (K + 16) rec i) : f_law_34 sq xs N rec σ i = some () := by
  unfold f_law_34
  rw [if_pos (by omega), if_pos (by omega), if_pos (by omega), if_pos (by omega)]
  exact lw_ok (fm := fun m => f_X13_freeSeats N m (scv xs (i + 1)) (scv xs (i + 2)) (scv xs (i + 3)) (scv xs (i + 4))) _ (op_freeSeats I (by omega) (scv xs (i + 1)) (scv xs (i + 2)) (scv xs (i + 3)) (scv xs (i + 4))) rfl (fun _ _ => rfl) (by intro s r z c hm hz; simp only [List.mem_cons, Prod.mk.injEq, List.not_mem_nil, or_false] at hm; rcases hm with ⟨rfl, rfl⟩ | ⟨rfl, rfl⟩ <;> exact ⟨by decide, rfl⟩) (by omega) hK hr
theorem law_35 (I : INV K σ.1 σ.2.1) (hK : K + 16 ≤ 80000) (hN : 40000000000 < N) (hi : 0 ≤ i ∧ i + 4 < (sq : Int)) (hr : LR (K + 16) rec i) : f_law_35 sq xs N rec σ i = some () := by
  unfold f_law_35
  rw [if_pos (by omega), if_pos (by omega), if_pos (by omega), if_pos (by omega)]
  exact lw_ok (fm := fun m => f_X13_freeSeatsBySweep N m (scv xs (i + 1)) (scv xs (i + 2)) (scv xs (i + 3)) (scv xs (i + 4))) _ (op_freeSeatsBySweep I (by omega) (scv xs (i + 1)) (scv xs (i + 2)) (scv xs (i + 3)) (scv xs (i + 4))) rfl (fun _ _ => rfl) (by intro s r z c hm hz; simp only [List.mem_cons, Prod.mk.injEq, List.not_mem_nil, or_false] at hm; rcases hm with ⟨rfl, rfl⟩ | ⟨rfl, rfl⟩ <;> exact ⟨by decide, rfl⟩) (by omega) hK hr
theorem law_36 (I : INV K σ.1 σ.2.1) (hK : K + 16 ≤ 80000) (hN : 40000000000 < N) (hi : 0 ≤ i ∧ i + 4 < (sq : Int)) (hr : LR (K + 16) rec i) : f_law_36 sq xs N rec σ i = some () := by
  unfold f_law_36
  exact lw_plain (congrArg some I.nr.tk : some (σ.1 6 1) = some (σ.2.1 1 3)) rfl (qI I 0) (by omega) hK hr
theorem law_37 (I : INV K σ.1 σ.2.1) (hK : K + 16 ≤ 80000) (hN : 40000000000 < N) (hi : 0 ≤ i ∧ i + 4 < (sq : Int)) (hr : LR (K + 16) rec i) : f_law_37 sq xs N rec σ i = some () := by
  unfold f_law_37
  rw [if_pos (by omega)]
  exact lw_ok (fm := fun m => f_X13_ticketAt m (scv xs (i + 1))) _ (op_ticketAt I (scv xs (i + 1))) rfl (fun _ _ => rfl) (by intro s r z c hm hz; simp only [List.mem_cons, Prod.mk.injEq, List.not_mem_nil, or_false] at hm; rcases hm with ⟨rfl, rfl⟩ <;> exact ⟨by decide, rfl⟩) (by omega) hK hr
theorem law_38 (I : INV K σ.1 σ.2.1) (hK : K + 16 ≤ 80000) (hN : 40000000000 < N) (hi : 0 ≤ i ∧ i + 4 < (sq : Int)) (hr : LR (K + 16) rec i) : f_law_38 sq xs N rec σ i = some () := by
  unfold f_law_38
  rw [if_pos (by omega)]
  exact lw_ok (fm := fun m => f_X13_ticketLine N m (scv xs (i + 1))) _ (op_ticketLine I (by omega) (scv xs (i + 1))) rfl (fun _ _ => rfl) (by intro s r z c hm hz; simp only [List.mem_cons, Prod.mk.injEq, List.not_mem_nil, or_false] at hm; rcases hm with ⟨rfl, rfl⟩ <;> exact ⟨by decide, rfl⟩) (by omega) hK hr
theorem law_39 (I : INV K σ.1 σ.2.1) (hK : K + 16 ≤ 80000) (hN : 40000000000 < N) (hi : 0 ≤ i ∧ i + 4 < (sq : Int)) (hr : LR (K + 16) rec i) : f_law_39 sq xs N rec σ i = some () := by
  unfold f_law_39
  rw [if_pos (by omega)]
  exact lw_ok (fm := fun m => f_X13_ticketTrip N m (scv xs (i + 1))) _ (op_ticketTrip I (by omega) (scv xs (i + 1))) rfl (fun _ _ => rfl) (by intro s r z c hm hz; simp only [List.mem_cons, Prod.mk.injEq, List.not_mem_nil, or_false] at hm; rcases hm with ⟨rfl, rfl⟩ <;> exact ⟨by decide, rfl⟩) (by omega) hK hr
theorem law_40 (I : INV K σ.1 σ.2.1) (hK : K + 16 ≤ 80000) (hN : 40000000000 < N) (hi : 0 ≤ i ∧ i + 4 < (sq : Int)) (hr : LR (K + 16) rec i) : f_law_40 sq xs N rec σ i = some () := by
  unfold f_law_40
  rw [if_pos (by omega)]
  exact lw_ok (fm := fun m => f_X13_ticketFrom N m (scv xs (i + 1))) _ (op_ticketFrom I (by omega) (scv xs (i + 1))) rfl (fun _ _ => rfl) (by intro s r z c hm hz; simp only [List.mem_cons, Prod.mk.injEq, List.not_mem_nil, or_false] at hm; rcases hm with ⟨rfl, rfl⟩ <;> exact ⟨by decide, rfl⟩) (by omega) hK hr
theorem law_41 (I : INV K σ.1 σ.2.1) (hK : K + 16 ≤ 80000) (hN : 40000000000 < N) (hi : 0 ≤ i ∧ i + 4 < (sq : Int)) (hr : LR (K + 16) rec i) : f_law_41 sq xs N rec σ i = some () := by
  unfold f_law_41
  rw [if_pos (by omega)]
  exact lw_ok (fm := fun m => f_X13_ticketTo N m (scv xs (i + 1))) _ (op_ticketTo I (by omega) (scv xs (i + 1))) rfl (fun _ _ => rfl) (by intro s r z c hm hz; simp only [List.mem_cons, Prod.mk.injEq, List.not_mem_nil, or_false] at hm; rcases hm with ⟨rfl, rfl⟩ <;> exact ⟨by decide, rfl⟩) (by omega) hK hr
theorem law_42 (I : INV K σ.1 σ.2.1) (hK : K + 16 ≤ 80000) (hN : 40000000000 < N) (hi : 0 ≤ i ∧ i + 4 < (sq : Int)) (hr : LR (K + 16) rec i) : f_law_42 sq xs N rec σ i = some () := by
  unfold f_law_42
  rw [if_pos (by omega)]
  exact lw_ok (fm := fun m => f_X13_ticketPrice N m (scv xs (i + 1))) _ (op_ticketPrice I (by omega) (scv xs (i + 1))) rfl (fun _ _ => rfl) (by intro s r z c hm hz; simp only [List.mem_cons, Prod.mk.injEq, List.not_mem_nil, or_false] at hm; rcases hm with ⟨rfl, rfl⟩ <;> exact ⟨by decide, rfl⟩) (by omega) hK hr
theorem law_43 (I : INV K σ.1 σ.2.1) (hK : K + 16 ≤ 80000) (hN : 40000000000 < N) (hi : 0 ≤ i ∧ i + 4 < (sq : Int)) (hr : LR (K + 16) rec i) : f_law_43 sq xs N rec σ i = some () := by
  unfold f_law_43
  exact lw_plain (congrArg some I.nr.ic : some (σ.1 6 3) = some (σ.2.1 1 7)) rfl (qI I 0) (by omega) hK hr
theorem law_44 (I : INV K σ.1 σ.2.1) (hK : K + 16 ≤ 80000) (hN : 40000000000 < N) (hi : 0 ≤ i ∧ i + 4 < (sq : Int)) (hr : LR (K + 16) rec i) : f_law_44 sq xs N rec σ i = some () := by
  unfold f_law_44
  exact lw_plain (congrArg some I.nr.rf : some (σ.1 6 4) = some (σ.2.1 1 8)) rfl (qI I 0) (by omega) hK hr
theorem law_45 (I : INV K σ.1 σ.2.1) (hK : K + 16 ≤ 80000) (hN : 40000000000 < N) (hi : 0 ≤ i ∧ i + 4 < (sq : Int)) (hr : LR (K + 16) rec i) : f_law_45 sq xs N rec σ i = some () := by
  unfold f_law_45
  exact lw_plain (congrArg some I.nr.us : some (σ.1 6 5) = some (σ.2.1 1 9)) rfl (qI I 0) (by omega) hK hr
theorem law_46 (I : INV K σ.1 σ.2.1) (hK : K + 16 ≤ 80000) (hN : 40000000000 < N) (hi : 0 ≤ i ∧ i + 4 < (sq : Int)) (hr : LR (K + 16) rec i) : f_law_46 sq xs N rec σ i = some () := by
  unfold f_law_46
  rw [if_pos (by omega)]
  exact lw_ok (fm := fun m => f_X13_lineByTickets N m (scv xs (i + 1))) _ (op_lineByTickets I (by omega) (scv xs (i + 1))) rfl (fun _ _ => rfl) (by intro s r z c hm hz; simp only [List.mem_cons, Prod.mk.injEq, List.not_mem_nil, or_false] at hm; rcases hm with ⟨rfl, rfl⟩ <;> exact ⟨by decide, rfl⟩) (by omega) hK hr
theorem law_47 (I : INV K σ.1 σ.2.1) (hK : K + 16 ≤ 80000) (hN : 40000000000 < N) (hi : 0 ≤ i ∧ i + 4 < (sq : Int)) (hr : LR (K + 16) rec i) : f_law_47 sq xs N rec σ i = some () := by
  unfold f_law_47
  rw [if_pos (by omega)]
  exact lw_ok (fm := fun m => f_X13_stopByLines N m (scv xs (i + 1))) _ (op_stopByLines I (by omega) (scv xs (i + 1))) rfl (fun _ _ => rfl) (by intro s r z c hm hz; simp only [List.mem_cons, Prod.mk.injEq, List.not_mem_nil, or_false] at hm; rcases hm with ⟨rfl, rfl⟩ <;> exact ⟨by decide, rfl⟩) (by omega) hK hr
theorem law_48 (I : INV K σ.1 σ.2.1) (hK : K + 16 ≤ 80000) (hN : 40000000000 < N) (hi : 0 ≤ i ∧ i + 4 < (sq : Int)) (hr : LR (K + 16) rec i) : f_law_48 sq xs N rec σ i = some () := by
  unfold f_law_48
  exact lw_mean I (by omega) (by omega) hK hr
theorem law_49 (I : INV K σ.1 σ.2.1) (hK : K + 16 ≤ 80000) (hN : 40000000000 < N) (hi : 0 ≤ i ∧ i + 4 < (sq : Int)) (hr : LR (K + 16) rec i) : f_law_49 sq xs N rec σ i = some () := by
  unfold f_law_49
  exact lw_share I (by omega) (by omega) hK hr
theorem law_50 (I : INV K σ.1 σ.2.1) (hK : K + 16 ≤ 80000) (hN : 40000000000 < N) (hi : 0 ≤ i ∧ i + 4 < (sq : Int)) (hr : LR (K + 16) rec i) : f_law_50 sq xs N rec σ i = some () := by
  unfold f_law_50
  obtain ⟨s, m, e1, e2, J⟩ := op_isConsistent I (show 2000 < N by omega)
  exact lw_chg (f2 := fun m => f_X13_isConsistent m) ⟨s, m, 1, e1, e2, J⟩ (by omega) hK hr
theorem law_51 (I : INV K σ.1 σ.2.1) (hK : K + 16 ≤ 80000) (hN : 40000000000 < N) (hi : 0 ≤ i ∧ i + 4 < (sq : Int)) (hr : LR (K + 16) rec i) : f_law_51 sq xs N rec σ i = some () := by
  unfold f_law_51
  rw [if_pos (by omega)]
  exact lw_ren (fm := fun m => f_X13_renderLine N m (scv xs (i + 1))) (z := 1) (by decide) _ I (op_renderLine I (by omega) (scv xs (i + 1))) rfl (fun _ _ _ => rfl) rfl (by omega) hK hr
theorem law_52 (I : INV K σ.1 σ.2.1) (hK : K + 16 ≤ 80000) (hN : 40000000000 < N) (hi : 0 ≤ i ∧ i + 4 < (sq : Int)) (hr : LR (K + 16) rec i) : f_law_52 sq xs N rec σ i = some () := by
  unfold f_law_52
  rw [if_pos (by omega)]
  exact lw_ren (fm := fun m => f_X13_renderTicket N m (scv xs (i + 1))) (z := 4) (by decide) _ I (op_renderTicket I (by omega) (scv xs (i + 1))) rfl (fun _ _ _ => rfl) rfl (by omega) hK hr
theorem law_53 (I : INV K σ.1 σ.2.1) (hK : K + 16 ≤ 80000) (hN : 40000000000 < N) (hi : 0 ≤ i ∧ i + 4 < (sq : Int)) (hr : LR (K + 16) rec i) : f_law_53 sq xs N rec σ i = some () := by
  unfold f_law_53
  rw [if_pos (by omega)]
  exact lw_ok (fm := fun m => f_X13_outputAt m (scv xs (i + 1))) _ (op_outputAt I (scv xs (i + 1))) rfl (fun _ _ => rfl) (by intro s r z c hm hz; simp only [List.mem_cons, Prod.mk.injEq, List.not_mem_nil, or_false] at hm; rcases hm with ⟨rfl, rfl⟩ <;> exact ⟨by decide, rfl⟩) (by omega) hK hr
theorem law_54 (I : INV K σ.1 σ.2.1) (hK : K + 16 ≤ 80000) (hN : 40000000000 < N) (hi : 0 ≤ i ∧ i + 4 < (sq : Int)) (hr : LR (K + 16) rec i) : f_law_54 sq xs N rec σ i = some () := by
  unfold f_law_54
  rw [if_pos (by omega)]
  exact lw_ok (fm := fun m => f_X13_type m ((scv xs (i + 1)) % 65536)) _ (op_type I ((scv xs (i + 1)) % 65536)) rfl (fun _ _ => rfl) (by intro s r z c hm hz; simp only [List.mem_cons, Prod.mk.injEq, List.not_mem_nil, or_false] at hm; rcases hm with ⟨rfl, rfl⟩ | ⟨rfl, rfl⟩ <;> exact ⟨by decide, rfl⟩) (by omega) hK hr
theorem law_55 (I : INV K σ.1 σ.2.1) (hK : K + 16 ≤ 80000) (hN : 40000000000 < N) (hi : 0 ≤ i ∧ i + 4 < (sq : Int)) (hr : LR (K + 16) rec i) : f_law_55 sq xs N rec σ i = some () := by
  unfold f_law_55
  exact lw_ok (fm := fun m => f_X13_runScript N m ) _ (op_runScript I (by omega) (by omega)) rfl (fun _ _ => rfl) (by intro s r z c hm hz; simp only [List.mem_cons, Prod.mk.injEq, List.not_mem_nil, or_false] at hm; rcases hm with ⟨rfl, rfl⟩ | ⟨rfl, rfl⟩ <;> exact ⟨by decide, rfl⟩) (by omega) hK hr
theorem law_56 (I : INV K σ.1 σ.2.1) (hK : K + 16 ≤ 80000) (hN : 40000000000 < N) (hi : 0 ≤ i ∧ i + 4 < (sq : Int)) (hr : LR (K + 16) rec i) : f_law_56 sq xs N rec σ i = some () := by
  unfold f_law_56
  exact lw_ok (fm := fun m => f_X13_errorPosition m ) _ (op_errorPosition I) rfl (fun _ _ => rfl) (by intro s r z c hm hz; simp only [List.mem_cons, Prod.mk.injEq, List.not_mem_nil, or_false] at hm; rcases hm with ⟨rfl, rfl⟩ <;> exact ⟨by decide, rfl⟩) (by omega) hK hr
theorem law_57 (I : INV K σ.1 σ.2.1) (hK : K + 16 ≤ 80000) (hN : 40000000000 < N) (hi : 0 ≤ i ∧ i + 4 < (sq : Int)) (hr : LR (K + 16) rec i) : f_law_57 sq xs N rec σ i = some () := by
  unfold f_law_57
  exact lw_ok (fm := fun m => f_X13_failedCommand m ) _ (op_failedCommand I) rfl (fun _ _ => rfl) (by intro s r z c hm hz; simp only [List.mem_cons, Prod.mk.injEq, List.not_mem_nil, or_false] at hm; rcases hm with ⟨rfl, rfl⟩ <;> exact ⟨by decide, rfl⟩) (by omega) hK hr
theorem law_58 (I : INV K σ.1 σ.2.1) (hK : K + 16 ≤ 80000) (hN : 40000000000 < N) (hi : 0 ≤ i ∧ i + 4 < (sq : Int)) (hr : LR (K + 16) rec i) : f_law_58 sq xs N rec σ i = some () := by
  unfold f_law_58
  exact lw_ok (fm := fun m => f_X13_undo N m ) _ (op_undo I (by omega)) rfl (fun _ _ => rfl) (by intro s r z c hm hz; simp only [List.mem_cons, Prod.mk.injEq, List.not_mem_nil, or_false] at hm; rcases hm with ⟨rfl, rfl⟩ <;> exact ⟨by decide, rfl⟩) (by omega) hK hr
theorem law_59 (I : INV K σ.1 σ.2.1) (hK : K + 16 ≤ 80000) (hN : 40000000000 < N) (hi : 0 ≤ i ∧ i + 4 < (sq : Int)) (hr : LR (K + 16) rec i) : f_law_59 sq xs N rec σ i = some () := by
  unfold f_law_59
  exact lw_chg (f2 := fun m => f_X13_save N m) (op_save I (by omega)) (by omega) hK hr
theorem law_60 (I : INV K σ.1 σ.2.1) (hK : K + 16 ≤ 80000) (hN : 40000000000 < N) (hi : 0 ≤ i ∧ i + 4 < (sq : Int)) (hr : LR (K + 16) rec i) : f_law_60 sq xs N rec σ i = some () := by
  unfold f_law_60
  exact lw_ok (fm := fun m => f_X13_restore N m ) _ (op_restore I (by omega)) rfl (fun _ _ => rfl) (by intro s r z c hm hz; simp only [List.mem_cons, Prod.mk.injEq, List.not_mem_nil, or_false] at hm; rcases hm with ⟨rfl, rfl⟩ <;> exact ⟨by decide, rfl⟩) (by omega) hK hr
theorem law_61 (I : INV K σ.1 σ.2.1) (hK : K + 16 ≤ 80000) (hN : 40000000000 < N) (hi : 0 ≤ i ∧ i + 4 < (sq : Int)) (hr : LR (K + 16) rec i) : f_law_61 sq xs N rec σ i = some () := by
  unfold f_law_61
  exact hr _ (I.mono (by omega) hK)
end LC
