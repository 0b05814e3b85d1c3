/-! agreement of class and model, part 93 -/
/-! rendering -/
def OUT (μ : Sm) (t : List Int) : Prop := μ 16 0 = (t.length : Int) ∧ ∀ j, j < t.length → μ 7 j = t.getD j 0
/-- s is μ but for the text t in its output -/
def PR (μ s : Sm) (t : List Int) : Prop := OUT s t ∧ ∀ r, r ≠ 7 → r ≠ 16 → s r = μ r
/-- digits from a power of ten on -/
def dgk (n : Nat) : Nat → List Int
  | 0 => [48 + ((n % 10 : Nat) : Int)]
  | k + 1 => (48 + ((n / 10 ^ (k + 1) % 10 : Nat) : Int)) :: dgk n k
theorem dgk_rev (n : Nat) : ∀ k, dgk n (k + 1) = dgk (n / 10) k ++ [48 + ((n % 10 : Nat) : Int)] := by
  intro k
  induction k with
  | zero => show [48 + ((n / 10 ^ 1 % 10 : Nat) : Int), 48 + ((n % 10 : Nat) : Int)] = _; rfl
  | succ k ih =>
    rw [dgk, ih, dgk, List.cons_append, Nat.pow_succ' (n := k + 1), Nat.div_div_eq_div_mul]
theorem dg_dgk : ∀ (k n : Nat), n < 10 ^ (k + 1) → (k = 0 ∨ 10 ^ k ≤ n) → dg n = dgk n k := by
  intro k
  induction k with
  | zero =>
    intro n h _
    have h2 : n < 10 := by simpa using h
    rw [dg_lt h2, dgk, Nat.mod_eq_of_lt h2]
  | succ k ih =>
    intro n h1 h2
    have h3 : 10 ^ (k + 1) ≤ n := by rcases h2 with h2 | h2; · omega
                                     · exact h2
    have e1 : 10 ^ (k + 1) = 10 ^ k * 10 := Nat.pow_succ ..
    have e2 : 10 ^ (k + 1 + 1) = 10 ^ (k + 1) * 10 := Nat.pow_succ ..
    have hp : 0 < 10 ^ k := Nat.pow_pos (by decide)
    rw [dg_ge (by omega), dgk_rev, ih (n / 10) (by omega) (by right; omega)]
section RD
variable {σ μ s : Sm} {g : Ga} {K : Int} {N : Nat} {t : List Int}
theorem w_one (h : PR μ s t) (x : Int) (hl : t.length < 80) : ∃ s', f_X13_write s x = some s' ∧ PR μ s' (t ++ [x]) := by
  obtain ⟨⟨h1, h2⟩, h3⟩ := h
  unfold f_X13_write
  rw [h1, if_pos (by omega), bl_eq, upm_role (show 16 ≠ 7 by decide), h1, if_pos (by unfold rng; omega), bl_eq, Int.toNat_natCast]
  refine ⟨_, rfl, ⟨?_, fun j hj => ?_⟩, fun r r1 r2 => ?_⟩
  · rw [upm_same, List.length_append, List.length_singleton]; rfl
  · rw [List.length_append, List.length_singleton] at hj
    rw [upm_role (show 7 ≠ 16 by decide)]
    by_cases q : j = t.length
    · subst q; rw [upm_same, getD_app_ge (Nat.le_refl _)]; simp
    · rw [upm_cell q, getD_app_lt (by omega)]; exact h2 j (by omega)
  · rw [upm_role r2, upm_role r1]; exact h3 r r1 r2
theorem w_digits (n : Nat) (hn : n < 1000000000) : ∀ (k m : Nat) (s : Sm) (t : List Int), k + 1 < m → k ≤ 9 → PR μ s t → t.length + k + 1 ≤ 80 → ∃ s', f_X13_writeNumber_18 n m s ((10 ^ k : Nat) : Int) = some s' ∧ PR μ s' (t ++ dgk n k) := by
  intro k
  induction k with
  | zero =>
    intro m s t hm _ h hl
    obtain ⟨m, rfl⟩ : ∃ k, m = k + 1 := ⟨m - 1, by omega⟩
    obtain ⟨m, rfl⟩ : ∃ k, m = k + 1 := ⟨m - 1, by omega⟩
    obtain ⟨s', e1, e2⟩ := w_one h (48 + ((n % 10 : Nat) : Int)) (by omega)
    have hx : (n : Int) / ((10 ^ 0 : Nat) : Int) = n := by simp
    rw [f_X13_writeNumber_18, if_neg (by decide), if_pos ⟨by omega, by decide⟩, hx, if_pos (by omega), if_pos (by unfold rng; omega), show 48 + (n : Int) % 10 = 48 + ((n % 10 : Nat) : Int) by omega, e1, Option.bind_some, if_pos (by decide), bl_eq, f_X13_writeNumber_18, if_pos (by decide)]
    exact ⟨s', rfl, e2⟩
  | succ k ih =>
    intro m s t hm hk h hl
    obtain ⟨m, rfl⟩ : ∃ k, m = k + 1 := ⟨m - 1, by omega⟩
    have hp : 0 < 10 ^ (k + 1) := Nat.pow_pos (by decide)
    have hd : 10 ^ (k + 1) = 10 ^ k * 10 := Nat.pow_succ ..
    have hx : (n : Int) / ((10 ^ (k + 1) : Nat) : Int) = ((n / 10 ^ (k + 1) : Nat) : Int) := (Int.natCast_ediv _ _).symm
    obtain ⟨s', e1, e2⟩ := w_one h (48 + ((n / 10 ^ (k + 1) % 10 : Nat) : Int)) (by omega)
    obtain ⟨s2, e3, e4⟩ := ih m s' (t ++ [48 + ((n / 10 ^ (k + 1) % 10 : Nat) : Int)]) (by omega) (by omega) e2 (by rw [List.length_append, List.length_singleton]; omega)
    rw [f_X13_writeNumber_18, if_neg (show ¬ ((10 ^ (k + 1) : Nat) : Int) ≤ 0 by omega), if_pos (show (0 : Int) ≤ n ∧ (0 : Int) < ((10 ^ (k + 1) : Nat) : Int) by omega), hx, if_pos (Int.natCast_nonneg _), if_pos (show rng (48 + ((n / 10 ^ (k + 1) : Nat) : Int) % 10) by unfold rng; omega), show 48 + ((n / 10 ^ (k + 1) : Nat) : Int) % 10 = 48 + ((n / 10 ^ (k + 1) % 10 : Nat) : Int) by omega, e1, Option.bind_some, if_pos (by omega), bl_eq, show ((10 ^ (k + 1) : Nat) : Int) / 10 = ((10 ^ k : Nat) : Int) by omega, e3]
    refine ⟨s2, rfl, ?_⟩
    rw [List.append_assoc] at e4
    exact e4
theorem w_power (n : Nat) : ∀ (d k m : Nat), d < m → n < 10 ^ (k + d + 1) → k + d ≤ 9 → (k = 0 ∨ 10 ^ k ≤ n) → ∃ j, f_X13_writeNumber_2 s n m ((10 ^ k : Nat) : Int) = some ((10 ^ j : Nat) : Int) ∧ n < 10 ^ (j + 1) ∧ (j = 0 ∨ 10 ^ j ≤ n) ∧ j ≤ 9 := by
  intro d
  induction d with
  | zero =>
    intro k m hm h1 h3 h2
    obtain ⟨m, rfl⟩ : ∃ k, m = k + 1 := ⟨m - 1, by omega⟩
    have hp : 0 < 10 ^ k := Nat.pow_pos (by decide)
    have hd : 10 ^ (k + 0 + 1) = 10 ^ k * 10 := Nat.pow_succ ..
    have hx : (n : Int) / ((10 ^ k : Nat) : Int) = ((n / 10 ^ k : Nat) : Int) := (Int.natCast_ediv _ _).symm
    have hq : n / 10 ^ k < 10 := Nat.div_lt_of_lt_mul (by omega)
    refine ⟨k, ?_, h1, h2, by omega⟩
    rw [f_X13_writeNumber_2, if_pos (by omega), hx, if_pos (by omega)]
  | succ d ih =>
    intro k m hm h1 h3 h2
    obtain ⟨m, rfl⟩ : ∃ k, m = k + 1 := ⟨m - 1, by omega⟩
    have hp : 0 < 10 ^ k := Nat.pow_pos (by decide)
    have hd : 10 ^ (k + 1) = 10 ^ k * 10 := Nat.pow_succ ..
    have hx : (n : Int) / ((10 ^ k : Nat) : Int) = ((n / 10 ^ k : Nat) : Int) := (Int.natCast_ediv _ _).symm
    by_cases q : n / 10 ^ k < 10
    · have hq : n < 10 ^ k * 10 := by
        have := Nat.lt_mul_of_div_lt q hp
        omega
      refine ⟨k, ?_, by omega, h2, by omega⟩
      rw [f_X13_writeNumber_2, if_pos (by omega), hx, if_pos (by omega)]
    · have hq : 10 ^ k * 10 ≤ n := by
        have := (Nat.le_div_iff_mul_le hp).mp (show 10 ≤ n / 10 ^ k by omega)
        omega
      have hk : 10 ^ (k + 1) ≤ 10 ^ 9 := Nat.pow_le_pow_right (by decide) (by omega)
      have h9 : (10 : Nat) ^ 9 = 1000000000 := by decide
      obtain ⟨j, j1, j2⟩ := ih (k + 1) m (by omega) (by rw [show k + 1 + d + 1 = k + (d + 1) + 1 by omega]; exact h1) (by omega) (Or.inr (by omega))
      refine ⟨j, ?_, j2⟩
      rw [f_X13_writeNumber_2, if_pos (by omega), hx, if_neg (by omega), bl_eq, show ((10 ^ k : Nat) : Int) * 10 = ((10 ^ (k + 1) : Nat) : Int) by omega, if_pos (by unfold rng; omega), j1]
theorem w_num (h : PR μ s t) (hN : 340 < N) {n : Nat} (hn : n < 1000000000) (hl : t.length + (dg n).length ≤ 80) : ∃ s', f_X13_writeNumber N s n = some s' ∧ PR μ s' (t ++ dg n) := by
  obtain ⟨j, j1, j2, j3, j4⟩ := w_power (s := s) n 9 0 N (by omega) (by omega) (by decide) (Or.inl rfl)
  have e := dg_dgk j n j2 j3
  have el := dg_len j n j2 j3
  obtain ⟨s', e1, e2⟩ := w_digits (μ := μ) n hn j N s t (by omega) j4 h (by omega)
  refine ⟨s', ?_, by rw [e]; exact e2⟩
  unfold f_X13_writeNumber
  rw [show f_X13_writeNumber_2 s n N 1 = _ from j1, Option.bind_some, e1, Option.bind_some]
theorem w_int (h : PR μ s t) (hN : 340 < N) {v : Int} (hv : 0 ≤ v ∧ v < 1000000000) (hl : t.length + (dg v.toNat).length ≤ 80) : ∃ s', f_X13_writeNumber N s v = some s' ∧ PR μ s' (t ++ dg v.toNat) := by
  obtain ⟨n, rfl⟩ := Int.eq_ofNat_of_zero_le hv.1
  rw [Int.toNat_natCast] at hl ⊢
  exact w_num h hN (by omega) hl
theorem dg1 {v : Int} (h : v ≤ 9) : (dg v.toNat).length ≤ 1 := by rw [dg_lt (by omega)]; simp
theorem dg2 {v : Int} (h : v ≤ 99) : (dg v.toNat).length ≤ 2 := by
  by_cases q : v.toNat < 10
  · rw [dg_lt q]; simp
  · rw [dg_len 1 v.toNat (by omega) (by right; omega)]; simp
theorem dg9 {v : Int} (h : v < 1000000000) : (dg v.toNat).length ≤ 10 := dg_len10 (by omega)
/-- the ring's part of the text -/
theorem w_ring (hN : 340 < N) (G : GI K (μ 1)) {c : Nat} (hc5 : c < 5) (t0 : List Int) (ht0 : t0.length ≤ 40) : ∀ (d k n : Nat) (s : Sm), d < n → (k : Int) + d = gl (μ 1) c 5 → PR μ s (t0 ++ txR (fun p => gl (μ 1) c (7 + p)) k) → (txR (fun p => gl (μ 1) c (7 + p)) k).length ≤ 2 * k → ∃ s', f_X13_renderLine_84 N c n s k = some s' ∧ PR μ s' (t0 ++ txR (fun p => gl (μ 1) c (7 + p)) (k + d)) ∧ (txR (fun p => gl (μ 1) c (7 + p)) (k + d)).length ≤ 2 * (k + d) := by
  have sz := (G.li c hc5).sz
  have hst := G.st
  intro d
  induction d with
  | zero =>
    intro k n s hn hk h hl
    obtain ⟨n, rfl⟩ : ∃ k, n = k + 1 := ⟨n - 1, by omega⟩
    have e1 : s 1 = μ 1 := h.2 1 (by decide) (by decide)
    refine ⟨s, ?_, h, hl⟩
    rw [f_X13_renderLine_84, m_l5 hc5, e1, Option.bind_some, if_pos (by omega)]
  | succ d ih =>
    intro k n s hn hk h hl
    obtain ⟨n, rfl⟩ : ∃ k, n = k + 1 := ⟨n - 1, by omega⟩
    have e1 : s 1 = μ 1 := h.2 1 (by decide) (by decide)
    have rg := (G.li c hc5).rg k (by omega)
    have ers : rgs (μ 1) c k = gl (μ 1) c (7 + k) := by unfold rgs; rw [if_pos (by omega), Int.toNat_natCast]
    have d1 := dg1 (v := gl (μ 1) c (7 + k)) (by omega)
    rw [f_X13_renderLine_84, m_l5 hc5, e1, Option.bind_some, if_neg (by omega)]
    by_cases q : (k : Int) ≤ 0
    · have hk0 : k = 0 := by omega
      rw [if_pos q, m_at (by rw [e1]; exact G) hc5 (by rw [e1]; omega) (by rw [e1]; omega), e1, Option.bind_some, ers]
      obtain ⟨s', a1, a2⟩ := w_int h hN (v := gl (μ 1) c (7 + k)) (by omega) (by rw [List.length_append]; omega)
      rw [a1, Option.bind_some]
      have et : t0 ++ txR (fun p => gl (μ 1) c (7 + p)) k ++ dg (gl (μ 1) c (7 + k)).toNat = t0 ++ txR (fun p => gl (μ 1) c (7 + p)) (k + 1) := by
        rw [txR, if_pos hk0, List.append_nil, List.append_assoc]
      rw [et] at a2
      obtain ⟨s2, b1, b2, b3⟩ := ih (k + 1) n s' (by omega) (by omega) a2 (by rw [txR, if_pos hk0, List.append_nil, List.length_append]; omega)
      refine ⟨s2, ?_, ?_, ?_⟩
      · rw [show (k : Int) + 1 = ((k + 1 : Nat) : Int) by omega]; exact b1
      · rw [show k + (d + 1) = k + 1 + d by omega]; exact b2
      · rw [show k + (d + 1) = k + 1 + d by omega]; exact b3
    · have hk0 : ¬ k = 0 := by omega
      obtain ⟨s1, c1, c2⟩ := w_one h 62 (by rw [List.length_append]; omega)
      have e2 : s1 1 = μ 1 := c2.2 1 (by decide) (by decide)
      rw [if_neg q, c1, Option.bind_some, m_at (by rw [e2]; exact G) hc5 (by rw [e2]; omega) (by rw [e2]; omega), e2, Option.bind_some, ers]
      obtain ⟨s', a1, a2⟩ := w_int c2 hN (v := gl (μ 1) c (7 + k)) (by omega) (by rw [List.length_append, List.length_append, List.length_singleton]; omega)
      rw [a1, Option.bind_some]
      have et : t0 ++ txR (fun p => gl (μ 1) c (7 + p)) k ++ [62] ++ dg (gl (μ 1) c (7 + k)).toNat = t0 ++ txR (fun p => gl (μ 1) c (7 + p)) (k + 1) := by
        rw [txR, if_neg hk0, List.append_assoc, List.append_assoc, List.append_assoc]
      rw [et] at a2
      obtain ⟨s2, b1, b2, b3⟩ := ih (k + 1) n s' (by omega) (by omega) a2 (by rw [txR, if_neg hk0, List.length_append, List.length_append, List.length_singleton]; omega)
      refine ⟨s2, ?_, ?_, ?_⟩
      · rw [show (k : Int) + 1 = ((k + 1 : Nat) : Int) by omega]; exact b1
      · rw [show k + (d + 1) = k + 1 + d by omega]; exact b2
      · rw [show k + (d + 1) = k + 1 + d by omega]; exact b3
theorem pr0 (μ : Sm) : PR μ (upm μ 16 0 0) [] := ⟨⟨upm_same _ _ _ _, fun j hj => by simp at hj⟩, fun r _ h => upm_role h⟩
theorem txR_congr {f f' : Nat → Int} : ∀ n, (∀ k, k < n → f k = f' k) → txR f n = txR f' n := by
  intro n
  induction n with
  | zero => intro _; rfl
  | succ n ih => intro h; rw [txR, txR, ih (fun k hk => h k (by omega)), h n (by omega)]
/-- after a rendered text both hold it -/
theorem out_ok (I : INV K σ μ) {t : List Int} (ht : t.length ≤ 80) {τ s : Sm} (hB : Bd σ t τ) (h : PR (upm μ 11 0 0) s t) : INV K τ s := by
  obtain ⟨h1, h2⟩ := hB
  have os : ∀ r, r < 390 → τ r = σ r := fun r hr => h1 r (by omega) (by omega)
  have om : ∀ r, r ≠ 7 → r ≠ 16 → r ≠ 11 → s r = μ r := fun r r1 r2 r3 => by rw [h.2 r r1 r2, upm_role r3]
  have eh : ∀ d, hblk s d = hblk μ d := fun d => by unfold hblk; rw [om 4 (by decide) (by decide) (by decide)]
  have nrs : ∀ b g, isNB b → NR b σ g → GI K g → NR b τ g := fun b g hb q1 q2 => q1.same (I.rw b hb) q2.tk.2 q2.ln.2 (fun r r1 r2 => by have := isNB_rng hb; exact os r (by omega))
  refine INV.mk ?_ ?_ I.kb (I.rw.same (fun b hb => by have := isNB_rng hb; exact os _ (by omega))) ?_ ?_ ?_ ?_ ?_ ?_ ?_ ?_ ?_ ?_
  · rw [om 1 (by decide) (by decide) (by decide)]; exact nrs _ _ (Or.inl rfl) I.nr I.gi
  · rw [om 1 (by decide) (by decide) (by decide)]; exact I.gi
  · rw [os 100 (by decide)]; exact I.hn
  · rw [os 100 (by decide), om 12 (by decide) (by decide) (by decide)]; exact I.hc
  · intro d hd
    rw [om 12 (by decide) (by decide) (by decide)] at hd ⊢
    rw [os 100 (by decide), eh]
    obtain ⟨o1, o2⟩ := I.hi d hd
    exact ⟨nrs _ _ (isNB_hb _ _ _) o1 o2, o2⟩
  · rw [os 0 (by decide), om 15 (by decide) (by decide) (by decide)]; exact I.sv
  · intro hh
    rw [om 15 (by decide) (by decide) (by decide)] at hh
    rw [om 3 (by decide) (by decide) (by decide)]
    obtain ⟨o1, o2⟩ := I.sn hh
    exact ⟨nrs _ _ (Or.inr (Or.inr (Or.inl rfl))) o1 o2, o2⟩
  · rw [os 386 (by decide), om 17 (by decide) (by decide) (by decide)]; exact I.sl
  · intro i hi
    rw [om 17 (by decide) (by decide) (by decide)] at hi
    rw [os 387 (by decide), om 8 (by decide) (by decide) (by decide)]; exact I.sg i hi
  · rw [os 0 (by decide), om 13 (by decide) (by decide) (by decide)]; exact I.er
  · rw [os 0 (by decide), om 14 (by decide) (by decide) (by decide)]; exact I.fl
  · exact ⟨t, h2, h.1.1, ht, h.1.2⟩
theorem op_renderLine (I : INV K σ μ) (hN : 340 < N) (x : Int) : (f_X12_renderLine σ x = some ((σ, 1, 0), []) ∧ f_X13_renderLine N μ x = some (upm μ 11 0 1, 0)) ∨ ∃ t s, f_X12_renderLine σ x = some ((σ, 0, (t.length : Int)), t) ∧ f_X13_renderLine N μ x = some (s, (t.length : Int)) ∧ s 11 0 = 0 ∧ ∀ τ, Bd σ t τ → INV K τ s := by
  unfold f_X12_renderLine f_X13_renderLine
  rw [show f_X8_lineIndexFault σ 1 x = some (zLn (μ 1) x) from c_lineIx I.nr x, Option.bind_some, m_isLine I.gi, Option.bind_some]
  by_cases h1 : 0 ≤ x ∧ x < μ 1 2
  · have hz : zLn (μ 1) x = 0 := by unfold zLn; rw [if_pos h1]
    obtain ⟨c, rfl, hc5, hc⟩ := isLn_cases I.gi h1
    have L := I.gi.li c hc5
    have sz := L.sz
    have hst := I.gi.st
    have hop := hopm_rng I.gi hc5
    have lh := L.hw
    have lo := L.of
    have ls := L.se
    obtain ⟨n, hn⟩ := Int.eq_ofNat_of_zero_le sz.1
    have a0 := dg2 (v := gl (μ 1) c 0) (by omega)
    have a1 := dg2 (v := gl (μ 1) c 1) (by omega)
    have a2 := dg2 (v := hopm (μ 1) c) (by omega)
    have a4 := dg2 (v := gl (μ 1) c 4) (by omega)
    have GQ := qG I.gi 0
    have hli := I.nr.li c hc
    -- the model
    have p0 := pr0 (upm μ 11 0 0)
    have q1' : upm μ 11 0 0 1 = μ 1 := q1 0
    obtain ⟨s1, w1, p1⟩ := w_int p0 hN (v := gl (μ 1) c 0) (by omega) (by simp; omega)
    obtain ⟨s2, w2, p2⟩ := w_one p1 47 (by rw [List.length_append]; simp; omega)
    obtain ⟨s3, w3, p3⟩ := w_int p2 hN (v := gl (μ 1) c 1) (by omega) (by simp only [List.length_append, List.length_cons, List.length_nil]; omega)
    obtain ⟨s4, w4, p4⟩ := w_one p3 43 (by simp only [List.length_append, List.length_cons, List.length_nil]; omega)
    obtain ⟨s5, w5, p5⟩ := w_int p4 hN (v := hopm (μ 1) c) (by omega) (by simp only [List.length_append, List.length_cons, List.length_nil]; omega)
    obtain ⟨s6, w6, p6⟩ := w_one p5 120 (by simp only [List.length_append, List.length_cons, List.length_nil]; omega)
    obtain ⟨s7, w7, p7⟩ := w_int p6 hN (v := gl (μ 1) c 4) (by omega) (by simp only [List.length_append, List.length_cons, List.length_nil]; omega)
    obtain ⟨s8, w8, p8⟩ := w_one p7 58 (by simp only [List.length_append, List.length_cons, List.length_nil]; omega)
    have ss : ∀ {s : Sm} {t : List Int}, PR (upm μ 11 0 0) s t → s 1 = μ 1 := fun h => by rw [h.2 1 (by decide) (by decide), q1']
    have eqf : (fun p => gl (upm μ 11 0 0 1) c (7 + p)) = fun p => gl (μ 1) c (7 + p) := by rw [q1']
    obtain ⟨s9, w9, p9, l9⟩ := w_ring (μ := upm μ 11 0 0) hN GQ hc5 ([] ++ dg (gl (μ 1) c 0).toNat ++ [47] ++ dg (gl (μ 1) c 1).toNat ++ [43] ++ dg (hopm (μ 1) c).toNat ++ [120] ++ dg (gl (μ 1) c 4).toNat ++ [58]) (by simp only [List.length_append, List.length_cons, List.length_nil]; omega) n 0 N s8 (by omega) (by rw [q1', hn]; omega) (by rw [txR, List.append_nil]; exact p8) (by simp [txR])
    rw [eqf, Nat.zero_add] at p9 l9
    -- the class
    have hf : txR (σ (1 + 23 + 2 * c + 1)) n = txR (fun p => gl (μ 1) c (7 + p)) n := txR_congr n (fun k hk => I.nr.rg c hc k (by omega))
    have cls : ∀ t, t = txL (gl (μ 1) c 0) (gl (μ 1) c 1) (hopm (μ 1) c) (gl (μ 1) c 4) (σ (1 + 23 + 2 * c + 1)) n (gl (μ 1) c 6) → t.length ≤ 80 → ((f_X12_refuse σ (zLn (μ 1) c)).bind fun v2 => if v2.2.1 = 0 then (if 0 ≤ (c : Int) ∧ (c : Int) < 5 then (f_X7_pace σ (1 + 23 + 2 * (c : Int).toNat) (σ 1 1)).bind fun p => (if (0 ≤ σ (1 + 23 + 2 * (c : Int).toNat) 0 ∧ 0 ≤ σ (1 + 23 + 2 * (c : Int).toNat) 1 ∧ 0 ≤ p ∧ 0 ≤ σ (1 + 23 + 2 * (c : Int).toNat) 4 ∧ 0 ≤ σ (1 + 23 + 2 * (c : Int).toNat) 6 ∧ σ (1 + 23 + 2 * (c : Int).toNat) 6 ≤ 6) ∧ (∀ k, k < (σ (1 + 23 + 2 * (c : Int).toNat) 6).toNat → 0 ≤ σ (1 + 23 + 2 * (c : Int).toNat + 1) k) ∧ (txL (σ (1 + 23 + 2 * (c : Int).toNat) 0) (σ (1 + 23 + 2 * (c : Int).toNat) 1) p (σ (1 + 23 + 2 * (c : Int).toNat) 4) (σ (1 + 23 + 2 * (c : Int).toNat + 1)) (σ (1 + 23 + 2 * (c : Int).toNat) 6).toNat (σ (1 + 23 + 2 * (c : Int).toNat) 5)).length ≤ 100 then some ((σ, 0, ((txL (σ (1 + 23 + 2 * (c : Int).toNat) 0) (σ (1 + 23 + 2 * (c : Int).toNat) 1) p (σ (1 + 23 + 2 * (c : Int).toNat) 4) (σ (1 + 23 + 2 * (c : Int).toNat + 1)) (σ (1 + 23 + 2 * (c : Int).toNat) 6).toNat (σ (1 + 23 + 2 * (c : Int).toNat) 5)).length : Int)), txL (σ (1 + 23 + 2 * (c : Int).toNat) 0) (σ (1 + 23 + 2 * (c : Int).toNat) 1) p (σ (1 + 23 + 2 * (c : Int).toNat) 4) (σ (1 + 23 + 2 * (c : Int).toNat + 1)) (σ (1 + 23 + 2 * (c : Int).toNat) 6).toNat (σ (1 + 23 + 2 * (c : Int).toNat) 5)) else none) else none) else some (xw v2, [])) = some ((σ, 0, (t.length : Int)), t) := fun t ht hl => by
      rw [hz, c_refuse σ (by decide), Option.bind_some, if_pos (by rfl), if_pos (by omega), Int.toNat_natCast, I.nr.ra, c_pace I.nr I.gi hc, Option.bind_some, hli.1, hli.2.1, hli.2.2.2.2.1, hli.2.2.2.2.2.1, hli.2.2.2.2.2.2, hn, Int.toNat_natCast, ← ht]
      rw [if_pos ⟨by omega, fun k hk => by rw [I.nr.rg c hc k (by omega)]; exact (L.rg k (by omega)).1, by omega⟩]
    have hT0 : txL (gl (μ 1) c 0) (gl (μ 1) c 1) (hopm (μ 1) c) (gl (μ 1) c 4) (σ (1 + 23 + 2 * c + 1)) n (gl (μ 1) c 6) = ([] ++ dg (gl (μ 1) c 0).toNat ++ [47] ++ dg (gl (μ 1) c 1).toNat ++ [43] ++ dg (hopm (μ 1) c).toNat ++ [120] ++ dg (gl (μ 1) c 4).toNat ++ [58] ++ txR (fun p => gl (μ 1) c (7 + p)) n) ++ (if gl (μ 1) c 6 = 0 then [] else [33]) := by unfold txL; rw [hf]
    have hl9 : ([] ++ dg (gl (μ 1) c 0).toNat ++ [47] ++ dg (gl (μ 1) c 1).toNat ++ [43] ++ dg (hopm (μ 1) c).toNat ++ [120] ++ dg (gl (μ 1) c 4).toNat ++ [58] ++ txR (fun p => gl (μ 1) c (7 + p)) n).length ≤ 40 := by simp only [List.length_append, List.length_cons, List.length_nil]; omega
    right
    have mdl : ∀ v, (v = gl (μ 1) c 6) → ((f_X13_checked μ (if 0 ≤ (c : Int) ∧ (c : Int) < μ 1 2 then 1 else 0)).bind fun v2 => (if v2.2 ≤ 0 then bl (upm v2.1 16 0 0) fun s4 => (f_X13_l s4 c 0).bind fun v5 => (f_X13_writeNumber N s4 v5).bind fun s6 => (f_X13_write s6 47).bind fun s7 => (f_X13_l s7 c 1).bind fun v8 => (f_X13_writeNumber N s7 v8).bind fun s9 => (f_X13_write s9 43).bind fun s10 => (f_X13_hop s10 c).bind fun v11 => (f_X13_writeNumber N s10 v11).bind fun s12 => (f_X13_write s12 120).bind fun s13 => (f_X13_l s13 c 4).bind fun v14 => (f_X13_writeNumber N s13 v14).bind fun s15 => (f_X13_write s15 58).bind fun s16 => (f_X13_renderLine_84 N c N s16 0).bind fun q30 => (f_X13_l q30 c 6).bind fun v31 => (if v31 = 1 then (f_X13_write q30 33).bind fun s34 => some (s34, (s34 16 0)) else some (q30, (q30 16 0))) else some (v2.1, 0))) = (if v = 1 then (f_X13_write s9 33).bind fun s34 => some (s34, (s34 16 0)) else some (s9, (s9 16 0))) := fun v hv => by
      have hopQ : f_X13_hop s4 c = some (hopm (μ 1) c) := by rw [m_hop (by rw [ss p4]; exact I.gi) hc5, ss p4]
      rw [if_pos h1, ck1, Option.bind_some]
      dsimp only
      rw [if_pos (by decide), bl_eq, m_l0 hc5, upm_role (show 1 ≠ 16 by decide), q1', Option.bind_some, w1, Option.bind_some, w2, Option.bind_some, m_l1 hc5, ss p2, Option.bind_some, w3, Option.bind_some, w4, Option.bind_some, hopQ, Option.bind_some, w5, Option.bind_some, w6, Option.bind_some, m_l4 hc5, ss p6, Option.bind_some, w7, Option.bind_some, w8, Option.bind_some, show f_X13_renderLine_84 N c N s8 0 = some s9 from w9, Option.bind_some, m_l6 hc5, ss p9, Option.bind_some, hv]
    rcases L.su with hsu | hsu
    · rw [if_pos hsu, List.append_nil] at hT0
      refine ⟨_, s9, cls _ hT0.symm (by omega), ?_, ?_, fun τ hB => out_ok I (by omega) hB p9⟩
      · rw [mdl _ rfl, hsu, if_neg (by decide), p9.1.1]
      · rw [p9.2 11 (by decide) (by decide), upm_same]
    · obtain ⟨sA, wA, pA⟩ := w_one p9 33 (by omega)
      rw [if_neg (show ¬ gl (μ 1) c 6 = 0 by rw [hsu]; decide)] at hT0
      refine ⟨_, sA, cls _ hT0.symm (by rw [List.length_append, List.length_singleton]; omega), ?_, ?_, fun τ hB => out_ok I (by rw [List.length_append, List.length_singleton]; omega) hB pA⟩
      · rw [mdl _ rfl, hsu, if_pos rfl, wA, Option.bind_some, pA.1.1]
      · rw [pA.2 11 (by decide) (by decide), upm_same]
  · have hz : zLn (μ 1) x = 1 := by unfold zLn; rw [if_neg h1]
    left
    refine ⟨?_, ?_⟩
    · rw [hz, c_refuse σ (by decide), Option.bind_some]; rfl
    · rw [if_neg h1, ck0, Option.bind_some]; rfl
end RD
