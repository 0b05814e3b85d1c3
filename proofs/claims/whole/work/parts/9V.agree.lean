/-! agreement of class and model, part 9V -/
/-! every script: the law never fails -/
theorem law_all {N : Nat} (hN : 40000000000 < N) {sq : Nat} (hq : sq ≤ 2560) (xs : Nat → Int32) : ∀ (n : Nat) (σ : SL) (i K : Int), INV K σ.1 σ.2.1 → 0 ≤ i → i ≤ (sq : Int) → (sq : Int) - i < 5 * (n : Int) → K + 16 * (n : Int) ≤ 80000 → f_law sq xs N n σ i = some () := by
  intro n
  induction n with
  | zero => intro σ i K I h1 h2 h3 h4; exact absurd h3 (by omega)
  | succ n ih =>
    intro σ i K I h1 h2 h3 h4
    rw [f_law, if_pos (by unfold rng; omega)]
    by_cases q : (sq : Int) - 5 < i
    · rw [if_pos q]
    rw [if_neg q, if_pos (by omega)]
    have hK : K + 16 ≤ 80000 := by omega
    have hi : 0 ≤ i ∧ i + 4 < (sq : Int) := by omega
    have hr : LR (K + 16) (f_law sq xs N n) i := fun τ J => ih τ (i + 5) (K + 16) J (by omega) (by omega) (by omega) (by omega)
    clear ih h1 h2 h3 h4 q
    by_cases c : scv xs i % 64 = 0
    · rw [if_pos c]; exact law_0 I hK hN hi hr
    rw [if_neg c]; clear c
    by_cases c : scv xs i % 64 = 1
    · rw [if_pos c]; exact law_1 I hK hN hi hr
    rw [if_neg c]; clear c
    by_cases c : scv xs i % 64 = 2
    · rw [if_pos c]; exact law_2 I hK hN hi hr
    rw [if_neg c]; clear c
    by_cases c : scv xs i % 64 = 3
    · rw [if_pos c]; exact law_3 I hK hN hi hr
    rw [if_neg c]; clear c
    by_cases c : scv xs i % 64 = 4
    · rw [if_pos c]; exact law_4 I hK hN hi hr
    rw [if_neg c]; clear c
    by_cases c : scv xs i % 64 = 5
    · rw [if_pos c]; exact law_5 I hK hN hi hr
    rw [if_neg c]; clear c
    by_cases c : scv xs i % 64 = 6
    · rw [if_pos c]; exact law_6 I hK hN hi hr
    rw [if_neg c]; clear c
    by_cases c : scv xs i % 64 = 7
    · rw [if_pos c]; exact law_7 I hK hN hi hr
    rw [if_neg c]; clear c
    by_cases c : scv xs i % 64 = 8
    · rw [if_pos c]; exact law_8 I hK hN hi hr
    rw [if_neg c]; clear c
    by_cases c : scv xs i % 64 = 9
    · rw [if_pos c]; exact law_9 I hK hN hi hr
    rw [if_neg c]; clear c
    by_cases c : scv xs i % 64 = 10
    · rw [if_pos c]; exact law_10 I hK hN hi hr
    rw [if_neg c]; clear c
    by_cases c : scv xs i % 64 = 11
    · rw [if_pos c]; exact law_11 I hK hN hi hr
    rw [if_neg c]; clear c
    by_cases c : scv xs i % 64 = 12
    · rw [if_pos c]; exact law_12 I hK hN hi hr
    rw [if_neg c]; clear c
    by_cases c : scv xs i % 64 = 13
    · rw [if_pos c]; exact law_13 I hK hN hi hr
    rw [if_neg c]; clear c
    by_cases c : scv xs i % 64 = 14
    · rw [if_pos c]; exact law_14 I hK hN hi hr
    rw [if_neg c]; clear c
    by_cases c : scv xs i % 64 = 15
    · rw [if_pos c]; exact law_15 I hK hN hi hr
    rw [if_neg c]; clear c
    by_cases c : scv xs i % 64 = 16
    · rw [if_pos c]; exact law_16 I hK hN hi hr
    rw [if_neg c]; clear c
    by_cases c : scv xs i % 64 = 17
    · rw [if_pos c]; exact law_17 I hK hN hi hr
    rw [if_neg c]; clear c
    by_cases c : scv xs i % 64 = 18
    · rw [if_pos c]; exact law_18 I hK hN hi hr
    rw [if_neg c]; clear c
    by_cases c : scv xs i % 64 = 19
    · rw [if_pos c]; exact law_19 I hK hN hi hr
    rw [if_neg c]; clear c
    by_cases c : scv xs i % 64 = 20
    · rw [if_pos c]; exact law_20 I hK hN hi hr
    rw [if_neg c]; clear c
    by_cases c : scv xs i % 64 = 21
    · rw [if_pos c]; exact law_21 I hK hN hi hr
    rw [if_neg c]; clear c
    by_cases c : scv xs i % 64 = 22
    · rw [if_pos c]; exact law_22 I hK hN hi hr
    rw [if_neg c]; clear c
    by_cases c : scv xs i % 64 = 23
    · rw [if_pos c]; exact law_23 I hK hN hi hr
    rw [if_neg c]; clear c
    by_cases c : scv xs i % 64 = 24
    · rw [if_pos c]; exact law_24 I hK hN hi hr
    rw [if_neg c]; clear c
    by_cases c : scv xs i % 64 = 25
    · rw [if_pos c]; exact law_25 I hK hN hi hr
    rw [if_neg c]; clear c
    by_cases c : scv xs i % 64 = 26
    · rw [if_pos c]; exact law_26 I hK hN hi hr
    rw [if_neg c]; clear c
    by_cases c : scv xs i % 64 = 27
    · rw [if_pos c]; exact law_27 I hK hN hi hr
    rw [if_neg c]; clear c
    by_cases c : scv xs i % 64 = 28
    · rw [if_pos c]; exact law_28 I hK hN hi hr
    rw [if_neg c]; clear c
    by_cases c : scv xs i % 64 = 29
    · rw [if_pos c]; exact law_29 I hK hN hi hr
    rw [if_neg c]; clear c
    by_cases c : scv xs i % 64 = 30
    · rw [if_pos c]; exact law_30 I hK hN hi hr
    rw [if_neg c]; clear c
    by_cases c : scv xs i % 64 = 31
    · rw [if_pos c]; exact law_31 I hK hN hi hr
    rw [if_neg c]; clear c
    by_cases c : scv xs i % 64 = 32
    · rw [if_pos c]; exact law_32 I hK hN hi hr
    rw [if_neg c]; clear c
    by_cases c : scv xs i % 64 = 33
    · rw [if_pos c]; exact law_33 I hK hN hi hr
    rw [if_neg c]; clear c
    by_cases c : scv xs i % 64 = 34
    · rw [if_pos c]; exact law_34 I hK hN hi hr
    rw [if_neg c]; clear c
    by_cases c : scv xs i % 64 = 35
    · rw [if_pos c]; exact law_35 I hK hN hi hr
    rw [if_neg c]; clear c
    by_cases c : scv xs i % 64 = 36
    · rw [if_pos c]; exact law_36 I hK hN hi hr
    rw [if_neg c]; clear c
    by_cases c : scv xs i % 64 = 37
    · rw [if_pos c]; exact law_37 I hK hN hi hr
    rw [if_neg c]; clear c
    by_cases c : scv xs i % 64 = 38
    · rw [if_pos c]; exact law_38 I hK hN hi hr
    rw [if_neg c]; clear c
    by_cases c : scv xs i % 64 = 39
    · rw [if_pos c]; exact law_39 I hK hN hi hr
    rw [if_neg c]; clear c
    by_cases c : scv xs i % 64 = 40
    · rw [if_pos c]; exact law_40 I hK hN hi hr
    rw [if_neg c]; clear c
    by_cases c : scv xs i % 64 = 41
    · rw [if_pos c]; exact law_41 I hK hN hi hr
    rw [if_neg c]; clear c
    by_cases c : scv xs i % 64 = 42
    · rw [if_pos c]; exact law_42 I hK hN hi hr
    rw [if_neg c]; clear c
    by_cases c : scv xs i % 64 = 43
    · rw [if_pos c]; exact law_43 I hK hN hi hr
    rw [if_neg c]; clear c
    by_cases c : scv xs i % 64 = 44
    · rw [if_pos c]; exact law_44 I hK hN hi hr
    rw [if_neg c]; clear c
    by_cases c : scv xs i % 64 = 45
    · rw [if_pos c]; exact law_45 I hK hN hi hr
    rw [if_neg c]; clear c
    by_cases c : scv xs i % 64 = 46
    · rw [if_pos c]; exact law_46 I hK hN hi hr
    rw [if_neg c]; clear c
    by_cases c : scv xs i % 64 = 47
    · rw [if_pos c]; exact law_47 I hK hN hi hr
    rw [if_neg c]; clear c
    by_cases c : scv xs i % 64 = 48
    · rw [if_pos c]; exact law_48 I hK hN hi hr
    rw [if_neg c]; clear c
    by_cases c : scv xs i % 64 = 49
    · rw [if_pos c]; exact law_49 I hK hN hi hr
    rw [if_neg c]; clear c
    by_cases c : scv xs i % 64 = 50
    · rw [if_pos c]; exact law_50 I hK hN hi hr
    rw [if_neg c]; clear c
    by_cases c : scv xs i % 64 = 51
    · rw [if_pos c]; exact law_51 I hK hN hi hr
    rw [if_neg c]; clear c
    by_cases c : scv xs i % 64 = 52
    · rw [if_pos c]; exact law_52 I hK hN hi hr
    rw [if_neg c]; clear c
    by_cases c : scv xs i % 64 = 53
    · rw [if_pos c]; exact law_53 I hK hN hi hr
    rw [if_neg c]; clear c
    by_cases c : scv xs i % 64 = 54
    · rw [if_pos c]; exact law_54 I hK hN hi hr
    rw [if_neg c]; clear c
    by_cases c : scv xs i % 64 = 55
    · rw [if_pos c]; exact law_55 I hK hN hi hr
    rw [if_neg c]; clear c
    by_cases c : scv xs i % 64 = 56
    · rw [if_pos c]; exact law_56 I hK hN hi hr
    rw [if_neg c]; clear c
    by_cases c : scv xs i % 64 = 57
    · rw [if_pos c]; exact law_57 I hK hN hi hr
    rw [if_neg c]; clear c
    by_cases c : scv xs i % 64 = 58
    · rw [if_pos c]; exact law_58 I hK hN hi hr
    rw [if_neg c]; clear c
    by_cases c : scv xs i % 64 = 59
    · rw [if_pos c]; exact law_59 I hK hN hi hr
    rw [if_neg c]; clear c
    by_cases c : scv xs i % 64 = 60
    · rw [if_pos c]; exact law_60 I hK hN hi hr
    rw [if_neg c]; clear c
    exact law_61 I hK hN hi hr
