/-! agreement of class and model, part 9N -/
/-! the script's text: reading by tokens -/
def eod (sg : Ga) (ln : Nat) : Nat → Nat → Nat
  | 0, i => i
  | m + 1, i => if i < ln ∧ 48 ≤ sg i ∧ sg i ≤ 57 then eod sg ln m (i + 1) else i
def eoT (sg : Ga) (ln : Nat) (c : Int) (i : Nat) : Nat := if c = 35 then eod sg ln 1 i else if c = 64 then eod sg ln 3 i else if i < ln ∧ sg i = c then i + 1 else i
def nvl (sg : Ga) : Nat → Nat → Int → Int
  | 0, _, a => a
  | n + 1, i, a => nvl sg n (i + 1) (a * 10 + (sg i - 48))
def stt (sg : Ga) (ln : Nat) (c : Int) (r : Nat ⊕ Nat) : Nat ⊕ Nat := match r with
  | .inl p => if eoT sg ln c p = p then .inr p else .inl (eoT sg ln c p)
  | .inr p => .inr p
def vot (sg : Ga) (ln : Nat) (c : Int) (r : Nat ⊕ Nat) : Int := match r with
  | .inl p => nvl sg (eoT sg ln c p - p) p 0
  | .inr _ => 0
def rdl (sg : Ga) (ln : Nat) : List Int → Nat ⊕ Nat → Nat ⊕ Nat
  | [], r => r
  | c :: l, r => rdl sg ln l (stt sg ln c r)
def isV (c : Int) : Bool := c = 35 ∨ c = 64
def vls (sg : Ga) (ln : Nat) : List Int → Nat ⊕ Nat → List Int
  | [], _ => []
  | c :: l, r => if isV c then vot sg ln c r :: vls sg ln l (stt sg ln c r) else vls sg ln l (stt sg ln c r)
def nvt (l : List Int) : Nat := (l.filter isV).length
section RD
variable {sg : Ga} {ln N : Nat} {σ s : Sm}
theorem eod_le (sg : Ga) (ln : Nat) : ∀ m i, i ≤ eod sg ln m i ∧ eod sg ln m i ≤ i + m := by
  intro m
  induction m with
  | zero => intro i; exact ⟨Nat.le_refl _, Nat.le_refl _⟩
  | succ m ih =>
    intro i
    unfold eod
    split
    · have := ih (i + 1); omega
    · omega
theorem eod_ln (sg : Ga) (ln : Nat) : ∀ m i, i ≤ ln → eod sg ln m i ≤ ln := by
  intro m
  induction m with
  | zero => intro i h; exact h
  | succ m ih =>
    intro i h
    unfold eod
    split
    · rename_i w; exact ih (i + 1) (by omega)
    · exact h
theorem eoT_le (sg : Ga) (ln : Nat) (c : Int) (i : Nat) : i ≤ eoT sg ln c i ∧ eoT sg ln c i ≤ i + 3 := by
  unfold eoT
  have h1 := eod_le sg ln 1 i
  have h3 := eod_le sg ln 3 i
  repeat' split
  all_goals omega
theorem eoT_ln (sg : Ga) (ln : Nat) (c : Int) {i : Nat} (h : i ≤ ln) : eoT sg ln c i ≤ ln := by
  unfold eoT
  have h1 := eod_ln sg ln 1 i h
  have h3 := eod_ln sg ln 3 i h
  repeat' split
  all_goals omega
theorem rdl_inr (sg : Ga) (ln : Nat) : ∀ (l : List Int) (q : Nat), rdl sg ln l (.inr q) = .inr q := by
  intro l
  induction l with
  | nil => intro q; rfl
  | cons c l ih => intro q; exact ih q
theorem rdl_ap (sg : Ga) (ln : Nat) : ∀ (l m : List Int) (r : Nat ⊕ Nat), rdl sg ln (l ++ m) r = rdl sg ln m (rdl sg ln l r) := by
  intro l
  induction l with
  | nil => intro m r; rfl
  | cons c l ih => intro m r; exact ih m _
theorem vls_ap (sg : Ga) (ln : Nat) : ∀ (l m : List Int) (r : Nat ⊕ Nat), vls sg ln (l ++ m) r = vls sg ln l r ++ vls sg ln m (rdl sg ln l r) := by
  intro l
  induction l with
  | nil => intro m r; rfl
  | cons c l ih =>
    intro m r
    show (if isV c then vot sg ln c r :: vls sg ln (l ++ m) (stt sg ln c r) else vls sg ln (l ++ m) (stt sg ln c r)) = (if isV c then vot sg ln c r :: vls sg ln l (stt sg ln c r) else vls sg ln l (stt sg ln c r)) ++ vls sg ln m (rdl sg ln l (stt sg ln c r))
    by_cases h : isV c = true
    · rw [if_pos h, if_pos h, ih]; rfl
    · rw [if_neg h, if_neg h, ih]
theorem vls_len (sg : Ga) (ln : Nat) : ∀ (l : List Int) (r : Nat ⊕ Nat), (vls sg ln l r).length = nvt l := by
  intro l
  induction l with
  | nil => intro r; rfl
  | cons c l ih =>
    intro r
    unfold vls nvt
    by_cases h : isV c = true
    · rw [if_pos h, List.filter_cons_of_pos h, List.length_cons, List.length_cons, ih]; rfl
    · rw [if_neg h, List.filter_cons_of_neg h, ih]; rfl
theorem rdl_le (sg : Ga) (ln : Nat) : ∀ (l : List Int) (p : Nat), (∀ e, rdl sg ln l (.inl p) = .inl e → p + l.length ≤ e) ∧ (∀ q, rdl sg ln l (.inl p) = .inr q → p ≤ q) ∧ (p ≤ ln → (∀ e, rdl sg ln l (.inl p) = .inl e → e ≤ ln) ∧ ∀ q, rdl sg ln l (.inl p) = .inr q → q ≤ ln) := by
  intro l
  induction l with
  | nil =>
    intro p
    refine ⟨fun e h => ?_, fun q h => ?_, fun hp => ⟨fun e h => ?_, fun q h => ?_⟩⟩
    · have : p = e := by injection h
      simp [this]
    · cases h
    · have : p = e := by injection h
      omega
    · cases h
  | cons c l ih =>
    intro p
    have h0 := eoT_le sg ln c p
    have hx : rdl sg ln (c :: l) (.inl p) = rdl sg ln l (if eoT sg ln c p = p then .inr p else .inl (eoT sg ln c p)) := rfl
    by_cases q : eoT sg ln c p = p
    · rw [if_pos q, rdl_inr] at hx
      rw [hx]
      refine ⟨(fun e h => by cases h), fun q h => ?_, fun hp => ⟨(fun e h => by cases h), fun q h => ?_⟩⟩
      · have : p = q := by injection h
        omega
      · have : p = q := by injection h
        omega
    · rw [if_neg q] at hx
      rw [hx]
      obtain ⟨i1, i2, i3⟩ := ih (eoT sg ln c p)
      refine ⟨fun e h => ?_, fun q h => ?_, fun hp => i3 (eoT_ln sg ln c hp)⟩
      · have := i1 e h
        rw [List.length_cons]; omega
      · have := i2 q h; omega
theorem nvl_rng (hs : ∀ i, i < ln → 32 ≤ sg i ∧ sg i ≤ 126) : ∀ (n i : Nat) (a : Int), i + n ≤ ln → n ≤ 3 → -1000 ≤ a → a ≤ 100000 → -100000000 ≤ nvl sg n i a ∧ nvl sg n i a ≤ 1000000000 := by
  intro n i a h1 h2 h3 h4
  match n, h1, h2 with
  | 0, h1, h2 => unfold nvl; omega
  | 1, h1, h2 =>
    have a1 := hs i (by omega)
    simp only [nvl]; omega
  | 2, h1, h2 =>
    have a1 := hs i (by omega)
    have a2 := hs (i + 1) (by omega)
    simp only [nvl]; omega
  | 3, h1, h2 =>
    have a1 := hs i (by omega)
    have a2 := hs (i + 1) (by omega)
    have a3 := hs (i + 1 + 1) (by omega)
    simp only [nvl]; omega
theorem c_eod (h1 : σ 386 1 = (ln : Int)) (hln : ln ≤ 60) : ∀ (m i n : Nat), m < n → i ≤ 60 → f_X9_endOf_57 σ 386 ((i + m : Nat) : Int) n i = some ((eod (σ 387) ln m i : Nat) : Int) := by
  intro m
  induction m with
  | zero =>
    intro i n hn hi
    obtain ⟨n, rfl⟩ : ∃ k, n = k + 1 := ⟨n - 1, by omega⟩
    rw [f_X9_endOf_57, if_pos (by omega)]; rfl
  | succ m ih =>
    intro i n hn hi
    obtain ⟨n, rfl⟩ : ∃ k, n = k + 1 := ⟨n - 1, by omega⟩
    rw [f_X9_endOf_57, if_neg (by omega), h1]
    unfold eod
    by_cases q : (ln : Int) ≤ (i : Int)
    · rw [if_pos q, if_neg (by omega)]
    · rw [if_neg q, if_pos (by omega), Int.toNat_natCast]
      unfold f_X9_isDigit
      show ((if σ 387 i < 48 then some 0 else if 57 < σ 387 i then some 0 else some 1 : Option Int).bind _) = _
      by_cases d : 48 ≤ σ 387 i ∧ σ 387 i ≤ 57
      · rw [if_neg (show ¬ σ 387 i < 48 by omega), if_neg (show ¬ 57 < σ 387 i by omega), Option.bind_some, if_neg (by decide), if_pos (show i < ln ∧ 48 ≤ σ 387 i ∧ σ 387 i ≤ 57 from ⟨by omega, d⟩)]
        have := ih (i + 1) n (by omega) (by omega)
        rw [show i + 1 + m = i + (m + 1) by omega] at this
        exact this
      · rw [if_neg (show ¬ (i < ln ∧ 48 ≤ σ 387 i ∧ σ 387 i ≤ 57) from fun h => d h.2)]
        by_cases d2 : σ 387 i < 48
        · rw [if_pos d2, Option.bind_some, if_pos rfl]
        · rw [if_neg d2, if_pos (by omega), Option.bind_some, if_pos rfl]
theorem c_endOf (h1 : σ 386 1 = (ln : Int)) (hln : ln ≤ 60) (hN : 10 < N) (c : Int) {i : Nat} (hi : i ≤ 60) : f_X9_endOf N σ 386 c i = some ((eoT (σ 387) ln c i : Nat) : Int) := by
  unfold f_X9_endOf eoT
  by_cases q1 : c = 35
  · have e := c_eod (ln := ln) h1 hln 1 i N (by omega) hi
    simp only [if_pos q1]
    rw [bl_eq, if_pos (by unfold rng; omega), show (i : Int) + 1 = ((i + 1 : Nat) : Int) by omega, e]; rfl
  · simp only [if_neg q1]
    by_cases q2 : c = 64
    · have e := c_eod (ln := ln) h1 hln 3 i N (by omega) hi
      rw [if_pos q2, if_pos q2, bl_eq, if_pos (by unfold rng; omega), show (i : Int) + 3 = ((i + 3 : Nat) : Int) by omega, e]; rfl
    · rw [if_neg q2, if_neg q2, h1]
      by_cases q : (ln : Int) ≤ (i : Int)
      · rw [if_pos q, if_neg (by omega)]
      · rw [if_neg q, if_pos (by omega), Int.toNat_natCast]
        show (if σ 387 i = c then _ else _) = _
        by_cases q3 : σ 387 i = c
        · rw [if_pos q3, if_pos ⟨by omega, q3⟩]; rfl
        · rw [if_neg q3, if_neg (fun h => q3 h.2)]
theorem c_num0 (i n : Nat) (hn : 0 < n) (a : Int) : f_X9_numberIn_5 σ 386 i n a i = some a := by
  obtain ⟨n, rfl⟩ : ∃ k, n = k + 1 := ⟨n - 1, by omega⟩
  rw [f_X9_numberIn_5, if_pos (by omega)]
theorem c_num1 (hs : ∀ i, i < ln → 32 ≤ σ 387 i ∧ σ 387 i ≤ 126) (hln : ln ≤ 60) (i k n : Nat) (a : Int) (hi : i + (k + 1) ≤ ln) (ha : -100000000 ≤ a ∧ a ≤ 100000000) : f_X9_numberIn_5 σ 386 ((i + (k + 1) : Nat) : Int) (n + 1) a i = f_X9_numberIn_5 σ 386 ((i + 1 + k : Nat) : Int) n (a * 10 + (σ 387 i - 48)) ((i + 1 : Nat) : Int) := by
  have h := hs i (by omega)
  rw [f_X9_numberIn_5, if_neg (by omega), if_pos (by omega), Int.toNat_natCast, bl_eq]
  show (if rng (a * 10 + (σ 387 i - 48)) then _ else _) = _
  rw [if_pos (by unfold rng; omega), show i + 1 + k = i + (k + 1) by omega]; rfl
theorem c_num (hs : ∀ i, i < ln → 32 ≤ σ 387 i ∧ σ 387 i ≤ 126) (hln : ln ≤ 60) {k i n : Nat} (hn : 4 < n) (hi : i + k ≤ ln) (hk : k ≤ 3) : f_X9_numberIn_5 σ 386 ((i + k : Nat) : Int) n 0 i = some (nvl (σ 387) k i 0) := by
  obtain ⟨n, rfl⟩ : ∃ k, n = k + 4 := ⟨n - 4, by omega⟩
  match k, hi, hk with
  | 0, hi, hk => exact c_num0 i _ (by omega) 0
  | 1, hi, hk =>
    have a1 := hs i (by omega)
    rw [c_num1 hs hln i 0 _ _ hi (by omega)]
    exact c_num0 (i + 1) _ (by omega) _
  | 2, hi, hk =>
    have a1 := hs i (by omega)
    have a2 := hs (i + 1) (by omega)
    rw [c_num1 hs hln i 1 _ _ hi (by omega), c_num1 hs hln (i + 1) 0 _ _ (by omega) (by omega)]
    exact c_num0 (i + 1 + 1) _ (by omega) _
  | 3, hi, hk =>
    have a1 := hs i (by omega)
    have a2 := hs (i + 1) (by omega)
    have a3 := hs (i + 1 + 1) (by omega)
    rw [c_num1 hs hln i 2 _ _ hi (by omega), c_num1 hs hln (i + 1) 1 _ _ (by omega) (by omega), c_num1 hs hln (i + 1 + 1) 0 _ _ (by omega) (by omega)]
    exact c_num0 (i + 1 + 1 + 1) _ (by omega) _
theorem c_numIn (hs : ∀ i, i < ln → 32 ≤ σ 387 i ∧ σ 387 i ≤ 126) (hln : ln ≤ 60) (hN : 10 < N) (c : Int) {i : Nat} (hi : i ≤ ln) : f_X9_numberIn N σ 386 i (eoT (σ 387) ln c i : Nat) = some (vot (σ 387) ln c (.inl i)) := by
  have h1 := eoT_le (σ 387) ln c i
  have h2 := eoT_ln (σ 387) ln c hi
  unfold f_X9_numberIn vot
  have := c_num (σ := σ) hs hln (k := eoT (σ 387) ln c i - i) (i := i) (n := N) (by omega) (by omega) (by omega)
  rw [show i + (eoT (σ 387) ln c i - i) = eoT (σ 387) ln c i by omega] at this
  rw [this]; rfl
end RD
