/-! agreement of class and model, part 75 -/
/-! copies: the class's networks, the model's arrays -/
theorem lp_inv {α β : Type} (F : Nat → α → Int → Option β) (fin : α → β) (P : Nat → α → Prop) (B : Nat) (h0 : ∀ n a, P B a → F (n + 1) a (B : Int) = some (fin a)) (h1 : ∀ n k a, k < B → P k a → ∃ a', P (k + 1) a' ∧ F (n + 1) a (k : Int) = F n a' ((k + 1 : Nat) : Int)) : ∀ n k a, k ≤ B → B - k < n → P k a → ∃ a', P B a' ∧ F n a (k : Int) = some (fin a') := by
  intro n
  induction n with
  | zero => intro k a _ h; omega
  | succ n ih =>
    intro k a hk hn hP
    by_cases e : k = B
    · subst e; exact ⟨a, hP, h0 n a hP⟩
    · obtain ⟨a', h2, h3⟩ := h1 n k a (by omega) hP
      rw [h3]; exact ih (k + 1) a' (by omega) (by omega) h2
theorem upm_same (σ : Sm) (s i : Nat) (v : Int) : upm σ s i v s i = v := by simp [upm]
theorem upm_role {σ : Sm} {s i r : Nat} {v : Int} (h : r ≠ s) : upm σ s i v r = σ r := by funext j; simp [upm, h]
theorem upm_cell {σ : Sm} {s i r j : Nat} {v : Int} (h : j ≠ i) : upm σ s i v r j = σ r j := by simp [upm, h]
/-- the model's block copy -/
def cpb (μ : Sm) (r0 a r2 c n : Nat) : Sm := fun s i => if s = r2 ∧ c ≤ i ∧ i < c + n then μ r0 (a + (i - c)) else μ s i
theorem m_copy {μ : Sm} {N r0 a r2 c : Nat} (ha : a + 340 ≤ mlen r0) (hc : c + 340 ≤ mlen r2) (hd : r0 ≠ r2 ∨ c + 340 ≤ a) (hN : 340 < N) : f_X13_copy N μ r0 (a : Int) r2 (c : Int) = some (cpb μ r0 a r2 c 340) := by
  have e := lp_up (f_X13_copy_3 r0 r2 a c) id (fun k => cpb μ r0 a r2 c k) 340 (fun n => ?_) (fun n k hk => ?_) N 0 (by omega) (by omega)
  · have e0 : cpb μ r0 a r2 c 0 = μ := by funext s i; unfold cpb; rw [if_neg (by omega)]
    unfold f_X13_copy
    rw [e0] at e
    exact (congrArg (fun q => Option.bind q _) e).trans rfl
  · rw [f_X13_copy_3, if_pos (by omega)]; rfl
  · rw [f_X13_copy_3, if_neg (by omega), if_pos (by omega), if_pos (by omega), bl_eq]
    have : upm (cpb μ r0 a r2 c k) r2 ((c : Int) + k).toNat (cpb μ r0 a r2 c k r0 ((a : Int) + k).toNat) = cpb μ r0 a r2 c (k + 1) := by
      rw [show ((c : Int) + k).toNat = c + k by omega, show ((a : Int) + k).toNat = a + k by omega]
      funext s i
      unfold upm cpb
      by_cases h1 : s = r2 ∧ i = c + k
      · rw [if_pos h1, if_neg (by omega), if_pos (by omega), h1.2, show c + k - c = k by omega]
      · rw [if_neg h1]
        by_cases h2 : s = r2 ∧ c ≤ i ∧ i < c + k
        · rw [if_pos h2, if_pos (by omega)]
        · rw [if_neg h2, if_neg (by omega)]
    rw [this]; rfl
/-- after begin -/
def bgn (μ : Sm) : Sm := cpb (upm μ 11 0 0) 1 0 2 0 340
theorem m_begin {μ : Sm} {N : Nat} (hN : 340 < N) : f_X13_begin N μ = some (bgn μ) := by
  have e := m_copy (μ := upm μ 11 0 0) (N := N) (r0 := 1) (a := 0) (r2 := 2) (c := 0) (by decide) (by decide) (by decide) hN
  unfold f_X13_begin
  rw [bl_eq]
  exact (congrArg (fun q => Option.bind q _) e).trans rfl
theorem bgn_r {μ : Sm} {r : Nat} (h : r ≠ 2 ∧ r ≠ 11) : bgn μ r = μ r := by
  funext i
  unfold bgn cpb
  rw [if_neg (by omega), upm_role h.2]
theorem bgn_2 {μ : Sm} {i : Nat} (h : i < 340) : bgn μ 2 i = μ 1 i := by
  unfold bgn cpb
  rw [if_pos (by omega), upm_role (by decide), show 0 + (i - 0) = i by omega]
theorem bgn_11 {μ : Sm} : bgn μ 11 0 = 0 := by
  unfold bgn cpb
  rw [if_neg (by omega), upm_same]
/-- the history after a change -/
theorem m_commit8 {μ : Sm} {N : Nat} {v : Int} (h8 : μ 12 0 = 8) (hN : 340 < N) : ∃ μ', f_X13_commit N μ v = some (μ', v) ∧ (∀ r, r ≠ 4 → r ≠ 12 → μ' r = μ r) ∧ μ' 12 0 = 8 ∧ (∀ d i : Nat, d < 7 → i < 340 → μ' 4 (340 * d + i) = μ 4 (340 * (d + 1) + i)) ∧ ∀ i : Nat, i < 340 → μ' 4 (2380 + i) = μ 2 i := by
  unfold f_X13_commit
  rw [if_pos h8]
  obtain ⟨s7, ⟨q1, q2, q3⟩, e⟩ := lp_inv (fun n a k => f_X13_commit_11 N v n a (k + 1)) id (fun k s => (∀ r, r ≠ 4 → s r = μ r) ∧ (∀ d i : Nat, d < k → i < 340 → s 4 (340 * d + i) = μ 4 (340 * (d + 1) + i)) ∧ ∀ j, 340 * k ≤ j → s 4 j = μ 4 j) 7 (fun n a hP => by show f_X13_commit_11 N v (n + 1) a 8 = _; rw [f_X13_commit_11, if_pos (by decide)]; rfl) (fun n k a hk hP => by
    obtain ⟨p1, p2, p3⟩ := hP
    have hc := m_copy (μ := a) (N := N) (r0 := 4) (a := 340 * (k + 1)) (r2 := 4) (c := 340 * k) (by show _ ≤ 2720; omega) (by show _ ≤ 2720; omega) (by omega) hN
    refine ⟨cpb a 4 (340 * (k + 1)) 4 (340 * k) 340, ⟨fun r hr => ?_, fun d i hd2 hi => ?_, fun j hj => ?_⟩, ?_⟩
    · funext j; unfold cpb; rw [if_neg (by omega), p1 r hr]
    · unfold cpb
      by_cases h2 : d = k
      · subst h2
        rw [if_pos (by omega), p3 _ (by omega)]
        congr 1; omega
      · rw [if_neg (by omega)]; exact p2 d i (by omega) hi
    · unfold cpb
      rw [if_neg (by omega)]; exact p3 j (by omega)
    · show f_X13_commit_11 N v (n + 1) a ((k : Int) + 1) = f_X13_commit_11 N v n _ (((k + 1 : Nat) : Int) + 1)
      rw [f_X13_commit_11, if_neg (by omega), if_pos (by unfold rng; omega), if_pos (by unfold rng; omega), show 340 * ((k : Int) + 1) = ((340 * (k + 1) : Nat) : Int) by omega, show 340 * ((k : Int) + 1 - 1) = ((340 * k : Nat) : Int) by omega, hc, Option.bind_some]
      rfl) N 0 μ (by omega) (by omega) ⟨fun _ _ => rfl, fun d i h _ => by omega, fun _ _ => rfl⟩
  have e1 : f_X13_commit_11 N v N μ 1 = some s7 := e
  rw [e1, Option.bind_some]
  have d7 : s7 12 0 = 8 := by rw [q1 12 (by decide)]; exact h8
  rw [d7, if_pos (by decide), bl_eq, upm_same, if_pos (by decide)]
  have hc : f_X13_copy N (upm s7 12 0 (8 - 1)) 2 0 4 (340 * (8 - 1)) = some (cpb (upm s7 12 0 (8 - 1)) 2 0 4 2380 340) := m_copy (μ := upm s7 12 0 (8 - 1)) (N := N) (r0 := 2) (a := 0) (r2 := 4) (c := 2380) (by decide) (by decide) (by decide) hN
  rw [hc, Option.bind_some, bl_eq]
  have c12 : cpb (upm s7 12 0 (8 - 1)) 2 0 4 2380 340 12 0 = 7 := by unfold cpb; rw [if_neg (by decide)]; exact upm_same _ _ _ _
  rw [c12, if_pos (by decide)]
  refine ⟨_, rfl, fun r h1 h2 => ?_, upm_same _ _ _ _, fun d i h1 h2 => ?_, fun i h1 => ?_⟩
  · rw [upm_role h2]; funext j; unfold cpb; rw [if_neg (by omega), upm_role h2, q1 r h1]
  · rw [upm_role (by decide)]; unfold cpb; rw [if_neg (by omega), upm_role (by decide)]; exact q2 d i h1 h2
  · rw [upm_role (by decide)]; unfold cpb; rw [if_pos (by omega), upm_role (by decide), q1 2 (by decide), show 0 + (2380 + i - 2380) = i by omega]
theorem m_commitk {μ : Sm} {N k : Nat} {v : Int} (hk : μ 12 0 = (k : Int)) (h8 : k < 8) (hN : 340 < N) : ∃ μ', f_X13_commit N μ v = some (μ', v) ∧ (∀ r, r ≠ 4 → r ≠ 12 → μ' r = μ r) ∧ μ' 12 0 = (k : Int) + 1 ∧ (∀ j, j < 340 * k → μ' 4 j = μ 4 j) ∧ ∀ i : Nat, i < 340 → μ' 4 (340 * k + i) = μ 2 i := by
  unfold f_X13_commit
  rw [hk, if_neg (by omega), if_pos (by unfold rng; omega)]
  have hc := m_copy (μ := μ) (N := N) (r0 := 2) (a := 0) (r2 := 4) (c := 340 * k) (by decide) (by show _ ≤ 2720; omega) (Or.inl (by decide)) hN
  have hc2 : f_X13_copy N μ 2 0 4 (340 * (k : Int)) = some (cpb μ 2 0 4 (340 * k) 340) := by
    rw [show 340 * (k : Int) = ((340 * k : Nat) : Int) by omega]; exact hc
  rw [hc2, Option.bind_some, bl_eq]
  have c12 : cpb μ 2 0 4 (340 * k) 340 12 0 = (k : Int) := by unfold cpb; rw [if_neg (by omega)]; exact hk
  rw [c12, if_pos (by unfold rng; omega)]
  refine ⟨_, rfl, fun r h1 h2 => ?_, upm_same _ _ _ _, fun j h1 => ?_, fun i h1 => ?_⟩
  · rw [upm_role h2]; funext j; unfold cpb; rw [if_neg (by omega)]
  · rw [upm_role (by decide)]; unfold cpb; rw [if_neg (by omega)]
  · rw [upm_role (by decide)]; unfold cpb; rw [if_pos (by omega), show 0 + (340 * k + i - 340 * k) = i by omega]
/-- the class's network copy -/
theorem lin_copy (s0 : Sm) {a c : Nat} (h1 : a + 1 < c ∨ c + 1 < a) : ∃ s', f_X7_copyFrom s0 a c = some s' ∧ (∀ r, r ≠ a → r ≠ a + 1 → s' r = s0 r) ∧ (∀ v, v < 7 → s' a v = s0 c v) ∧ ∀ p, p < 6 → s' (a + 1) p = s0 (c + 1) p := by
  have n1 : c ≠ a := by omega
  have n2 : c + 1 ≠ a := by omega
  have n3 : c ≠ a + 1 := by omega
  have n4 : a ≠ a + 1 := by omega
  have n5 : a + 1 ≠ a := by omega
  have n6 : c + 1 ≠ a + 1 := by omega
  unfold f_X7_copyFrom
  simp only [bl_eq]
  refine ⟨_, rfl, fun r h2 h3 => ?_, fun v hv => ?_, fun p hp => ?_⟩
  · funext j
    simp only [cpm, upm, h2, h3, false_and, if_false]
  · rcases (by omega : v = 0 ∨ v = 1 ∨ v = 2 ∨ v = 3 ∨ v = 4 ∨ v = 5 ∨ v = 6) with e | e | e | e | e | e | e <;> subst e <;> simp [cpm, upm, n1]
  · simp [cpm, upm, n5, n2, n6, hp, n1]
theorem tick_copy (s0 : Sm) {a c : Nat} (h1 : a ≠ c) : ∃ s', f_X10_copyFrom s0 a c = some s' ∧ (∀ r, r ≠ a → s' r = s0 r) ∧ ∀ v, v < 6 → s' a v = s0 c v := by
  have n1 : c ≠ a := fun e => h1 e.symm
  unfold f_X10_copyFrom
  simp only [bl_eq]
  refine ⟨_, rfl, fun r h2 => ?_, fun v hv => ?_⟩
  · funext j
    simp only [upm, h2, false_and, if_false]
  · rcases (by omega : v = 0 ∨ v = 1 ∨ v = 2 ∨ v = 3 ∨ v = 4 ∨ v = 5) with e | e | e | e | e | e <;> subst e <;> simp [upm, n1]
theorem lp41 (s0 : Sm) {b s N : Nat} (hn : s ≠ b) (hN : 16 < N) : f_X8_copyFrom_41 b s N s0 0 = some (cpm s0 (s + 2) (b + 2) 10) := by
  have e := lp_up (f_X8_copyFrom_41 b s) id (fun k => cpm s0 (s + 2) (b + 2) k) 10 (fun n => ?_) (fun n k hk => ?_) N 0 (by omega) (by omega)
  · have e0 : cpm s0 (s + 2) (b + 2) 0 = s0 := by funext r i; simp [cpm]
    rw [e0] at e; exact e
  · rw [f_X8_copyFrom_41, if_pos (by omega)]; rfl
  · rw [f_X8_copyFrom_41, if_neg (by omega), if_pos (by omega), bl_eq]
    have : upm (cpm s0 (s + 2) (b + 2) k) (b + 2) (k : Int).toNat (cpm s0 (s + 2) (b + 2) k (s + 2) (k : Int).toNat) = cpm s0 (s + 2) (b + 2) (k + 1) := by
      rw [Int.toNat_natCast]
      have n2 : s + 2 ≠ b + 2 := by omega
      funext r i
      simp only [upm, cpm, n2, false_and, if_false]
      by_cases h1 : r = b + 2
      · by_cases h2 : i = k
        · subst h2; simp [h1]
        · by_cases h3 : i < k
          · simp [h1, h2, h3, show i < k + 1 by omega]
          · simp [h1, h2, h3, show ¬ i < k + 1 by omega]
      · simp [h1]
    rw [this]; rfl
theorem c_tkcopy {b s N : Nat} {σ a0 : Sm} {g : Ga} {K : Int} (hN : 16 < N) (hd : b + 33 ≤ s ∨ s + 33 ≤ b) (h : NR s σ g) (G : GI K g) (Rb : RW b σ) (Rs : RW s σ) (hs : sameN s σ a0) (hb : ∀ r, b + 5 ≤ r → r < b + 23 → a0 r = σ r) : ∃ σ', f_X11_copyFrom N a0 (b + 5) (s + 5) = some σ' ∧ (∀ r, (r < b + 5 ∨ b + 23 ≤ r) → σ' r = a0 r) ∧ σ' (b + 6) = σ (b + 6) ∧ (σ' (b + 5) 1 = g 3 ∧ σ' (b + 5) 2 = g 4 ∧ σ' (b + 5) 3 = g 7 ∧ σ' (b + 5) 4 = g 8 ∧ σ' (b + 5) 5 = g 9) ∧ ∀ k : Nat, (k : Int) < g 3 → ∀ v, v < 6 → σ' (tkr b σ k) v = gt g k v := by
  have nsb : s + 5 ≠ b + 5 := by omega
  have es5 : a0 (s + 5) = σ (s + 5) := hs _ (by omega) (by omega)
  unfold f_X11_copyFrom
  simp only [bl_eq]
  have ha : ∃ s10 : Sm, s10 = upm (upm (upm (upm (upm a0 (b + 5) 1 (a0 (s + 5) 1)) (b + 5) 2 (upm a0 (b + 5) 1 (a0 (s + 5) 1) (s + 5) 2)) (b + 5) 3 (upm (upm a0 (b + 5) 1 (a0 (s + 5) 1)) (b + 5) 2 (upm a0 (b + 5) 1 (a0 (s + 5) 1) (s + 5) 2) (s + 5) 3)) (b + 5) 4 (upm (upm (upm a0 (b + 5) 1 (a0 (s + 5) 1)) (b + 5) 2 (upm a0 (b + 5) 1 (a0 (s + 5) 1) (s + 5) 2)) (b + 5) 3 (upm (upm a0 (b + 5) 1 (a0 (s + 5) 1)) (b + 5) 2 (upm a0 (b + 5) 1 (a0 (s + 5) 1) (s + 5) 2) (s + 5) 3) (s + 5) 4)) (b + 5) 5 (upm (upm (upm (upm a0 (b + 5) 1 (a0 (s + 5) 1)) (b + 5) 2 (upm a0 (b + 5) 1 (a0 (s + 5) 1) (s + 5) 2)) (b + 5) 3 (upm (upm a0 (b + 5) 1 (a0 (s + 5) 1)) (b + 5) 2 (upm a0 (b + 5) 1 (a0 (s + 5) 1) (s + 5) 2) (s + 5) 3)) (b + 5) 4 (upm (upm (upm a0 (b + 5) 1 (a0 (s + 5) 1)) (b + 5) 2 (upm a0 (b + 5) 1 (a0 (s + 5) 1) (s + 5) 2)) (b + 5) 3 (upm (upm a0 (b + 5) 1 (a0 (s + 5) 1)) (b + 5) 2 (upm a0 (b + 5) 1 (a0 (s + 5) 1) (s + 5) 2) (s + 5) 3) (s + 5) 4) (s + 5) 5) := ⟨_, rfl⟩
  obtain ⟨s10, e10⟩ := ha
  rw [← e10]
  have b1 : ∀ r, r ≠ b + 5 → s10 r = a0 r := fun r h1 => by
    funext j; rw [e10]; simp only [upm, h1, false_and, if_false]
  have b2 : s10 (b + 5) 1 = g 3 ∧ s10 (b + 5) 2 = g 4 ∧ s10 (b + 5) 3 = g 7 ∧ s10 (b + 5) 4 = g 8 ∧ s10 (b + 5) 5 = g 9 := by
    rw [e10]
    refine ⟨?_, ?_, ?_, ?_, ?_⟩
    · simp [upm, nsb, es5, h.tk]
    · simp [upm, nsb, es5, h.nx]
    · simp [upm, nsb, es5, h.ic]
    · simp [upm, nsb, es5, h.rf]
    · simp [upm, nsb, es5, h.us]
  clear e10
  have h4 := G.tk
  obtain ⟨z, hz⟩ := Int.eq_ofNat_of_zero_le h4.1
  obtain ⟨s', ⟨p1, p2⟩, e⟩ := lp_inv (f_X11_copyFrom_42 (b + 5) (s + 5)) id (fun k a => (∀ r, (∀ j, j < k → r ≠ tkr b σ j) → a r = s10 r) ∧ ∀ j, j < k → ∀ v, v < 6 → a (tkr b σ j) v = gt g j v) z (fun n a hP => by
      have e1 : a (b + 5) = s10 (b + 5) := hP.1 _ (fun j hj => by have := tkr_ge Rb (k := j) (by omega); omega)
      rw [f_X11_copyFrom_42, e1, b2.1, if_pos (by omega)]; rfl) (fun n k a hk hP => by
      obtain ⟨p1, p2⟩ := hP
      have e1 : a (b + 5) = s10 (b + 5) := p1 _ (fun j hj => by have := tkr_ge Rb (k := j) (by omega); omega)
      have e2 : a (b + 5 + 1) = σ (b + 6) := by
        rw [p1 _ (fun j hj => by have := tkr_ge Rb (k := j) (by omega); omega), b1 _ (by omega)]; exact hb _ (by omega) (by omega)
      have e3 : a (s + 5 + 1) = σ (s + 6) := by
        rw [p1 _ (fun j hj => by have := tkr_ge Rb (k := j) (by omega); omega), b1 _ (by omega)]; exact hs _ (by omega) (by omega)
      have r1 := tkr_ge Rb (k := k) (by omega)
      have r2 := tkr_ge Rs (k := k) (by omega)
      obtain ⟨a', h1, h2, h3⟩ := tick_copy a (a := tkr b σ k) (c := tkr s σ k) (by omega)
      refine ⟨a', ⟨fun r hr => ?_, fun j hj v hv => ?_⟩, ?_⟩
      · rw [h2 r (hr k (by omega))]; exact p1 r (fun j hj => hr j (by omega))
      · by_cases q : j = k
        · subst q
          rw [h3 v hv, p1 _ (fun j hj => by have := tkr_ge Rb (k := j) (by omega); omega), b1 _ (by omega), hs _ (by omega) (by omega)]
          exact h.ti _ (by omega) v hv
        · rw [h2 _ (fun q2 => q (tkr_inj Rb (by omega) (by omega) q2))]
          exact p2 j (by omega) v hv
      · rw [f_X11_copyFrom_42, e1, b2.1, if_neg (by omega), if_pos (by omega), e2, e3, Int.toNat_natCast]
        show (f_X10_copyFrom a (tkr b σ k) (tkr s σ k)).bind _ = _
        rw [h1]; rfl) N 0 s10 (by omega) (by omega) ⟨fun _ _ => rfl, fun j hj => by omega⟩
  rw [show f_X11_copyFrom_42 (b + 5) (s + 5) N s10 0 = some s' from e, Option.bind_some]
  have q5 : s' (b + 5) = s10 (b + 5) := p1 _ (fun j hj => by have := tkr_ge Rb (k := j) (by omega); omega)
  refine ⟨s', rfl, fun r hr => ?_, ?_, ?_, fun k hk v hv => p2 k (by omega) v hv⟩
  · rw [p1 r (fun j hj => by have := tkr_ge Rb (k := j) (by omega); omega), b1 r (by omega)]
  · rw [p1 _ (fun j hj => by have := tkr_ge Rb (k := j) (by omega); omega), b1 _ (by omega)]; exact hb _ (by omega) (by omega)
  · rw [q5]; exact b2
theorem c_copy {b s N : Nat} {σ : Sm} {g : Ga} {K : Int} (hN : 16 < N) (hd : b + 33 ≤ s ∨ s + 33 ≤ b) (h : NR s σ g) (G : GI K g) (Rb : RW b σ) (Rs : RW s σ) : ∃ σ', f_X8_copyFrom N σ b s = some σ' ∧ NR b σ' g ∧ offN b σ σ' ∧ σ' (b + 6) = σ (b + 6) := by
  unfold f_X8_copyFrom
  simp only [bl_eq]
  -- the first cells
  have ha : ∃ s7 : Sm, s7 = cpm (upm (upm (upm σ b 0 (σ s 0)) b 1 (upm σ b 0 (σ s 0) s 1)) b 2 (upm (upm σ b 0 (σ s 0)) b 1 (upm σ b 0 (σ s 0) s 1) s 2)) (s + 1) (b + 1) 10 := ⟨_, rfl⟩
  obtain ⟨s7, e7⟩ := ha
  rw [← e7]
  have a1 : ∀ r, r ≠ b → r ≠ b + 1 → s7 r = σ r := fun r h1 h2 => by
    funext j; rw [e7]; simp only [cpm, upm, h1, h2, false_and, if_false]
  have nsb : s ≠ b := by omega
  have a2 : s7 b 0 = g 5 ∧ s7 b 1 = g 6 ∧ s7 b 2 = g 0 := by
    rw [e7]
    have n1 : b ≠ b + 1 := by omega
    refine ⟨?_, ?_, ?_⟩
    · simp [cpm, upm, nsb, h.mi]
    · simp [cpm, upm, nsb, h.ra]
    · simp [cpm, upm, nsb, h.st]
  have a3 : ∀ i : Nat, (i : Int) < g 0 → s7 (b + 1) i = g (12 + 2 * i) := fun i hi => by
    have := G.st
    have n1 : i < 10 := by omega
    have n2 : s + 1 ≠ b := by omega
    rw [e7]; simp [cpm, upm, n1, n2, h.tr i hi]
  have a4 : ∀ r, (r < b ∨ b + 2 ≤ r) → s7 r = σ r := fun r hr => a1 r (by omega) (by omega)
  clear e7
  rw [lp41 s7 nsb hN, Option.bind_some]
  have hb : ∃ s21 : Sm, s21 = upm (cpm (upm (cpm s7 (s + 2) (b + 2) 10) b 5 (cpm s7 (s + 2) (b + 2) 10 s 5)) (s + 3) (b + 3) 100) b 7 (cpm (upm (cpm s7 (s + 2) (b + 2) 10) b 5 (cpm s7 (s + 2) (b + 2) 10 s 5)) (s + 3) (b + 3) 100 s 7) := ⟨_, rfl⟩
  obtain ⟨s21, e21⟩ := hb
  rw [← e21]
  have nb2 : b ≠ b + 2 := by omega
  have nb3 : b ≠ b + 3 := by omega
  have ns2 : s ≠ b + 2 := by omega
  have ns3 : s ≠ b + 3 := by omega
  have b1 : ∀ r, (r < b ∨ b + 4 ≤ r) → s21 r = σ r := fun r hr => by
    have n1 : r ≠ b := by omega
    have n2 : r ≠ b + 2 := by omega
    have n3 : r ≠ b + 3 := by omega
    funext j; rw [e21]; simp only [cpm, upm, n1, n2, n3, false_and, if_false]
    rw [a4 r (by omega)]
  have b2 : s21 b 0 = g 5 ∧ s21 b 1 = g 6 ∧ s21 b 2 = g 0 ∧ s21 b 5 = g 1 ∧ s21 b 7 = g 2 := by
    have es : s7 s = σ s := a4 s (by omega)
    rw [e21]
    refine ⟨?_, ?_, ?_, ?_, ?_⟩
    · simp [cpm, upm, nb2, nb3, a2.1]
    · simp [cpm, upm, nb2, nb3, a2.2.1]
    · simp [cpm, upm, nb2, nb3, a2.2.2]
    · simp [cpm, upm, nb2, nb3, ns2, ns3, nsb, es, h.wk]
    · simp [cpm, upm, nb2, nb3, ns2, ns3, nsb, es, h.ln]
  have b3 : ∀ i : Nat, (i : Int) < g 0 → s21 (b + 1) i = g (12 + 2 * i) := fun i hi => by
    rw [← a3 i hi, e21]; simp [cpm, upm]
  have b4 : ∀ i : Nat, (i : Int) < g 0 → s21 (b + 2) i = g (13 + 2 * i) := fun i hi => by
    have := G.st
    have n1 : i < 10 := by omega
    have es : s7 (s + 2) = σ (s + 2) := a4 _ (by omega)
    rw [e21]; simp [cpm, upm, n1, es, h.cl i hi]
  have b5 : ∀ x y, x < 10 → y < 10 → s21 (b + 3) (10 * x + y) = g (32 + 10 * x + y) := fun x y hx hy => by
    have n1 : 10 * x + y < 100 := by omega
    have es : s7 (s + 3) = σ (s + 3) := a4 _ (by omega)
    have n2 : s + 3 ≠ b := by omega
    have n3 : s + 3 ≠ b + 2 := by omega
    rw [e21]; simp [cpm, upm, n1, n2, n3, es, h.wl x y hx hy]
  clear e21
  have hl := G.ln
  obtain ⟨z, hz⟩ := Int.eq_ofNat_of_zero_le hl.1
  obtain ⟨s34, ⟨p1, p2, p3⟩, e34⟩ := lp_inv (f_X8_copyFrom_98 b s) id (fun k a => (∀ r, (r < b + 23 ∨ b + 23 + 2 * k ≤ r) → a r = s21 r) ∧ (∀ c, c < k → ∀ v, v < 7 → a (b + 23 + 2 * c) v = σ (s + 23 + 2 * c) v) ∧ ∀ c, c < k → ∀ p, p < 6 → a (b + 23 + 2 * c + 1) p = σ (s + 23 + 2 * c + 1) p) z (fun n a hP => by
      rw [f_X8_copyFrom_98, hP.1 b (by omega), b2.2.2.2.2, if_pos (by omega)]; rfl) (fun n k a hk hP => by
      obtain ⟨p1, p2, p3⟩ := hP
      obtain ⟨a', h1, h2, h3, h4⟩ := lin_copy a (a := b + 23 + 2 * k) (c := s + 23 + 2 * k) (by omega)
      have es : ∀ r, s + 23 ≤ r → r < s + 33 → a r = σ r := fun r q1 q2 => by rw [p1 r (by omega), b1 r (by omega)]
      refine ⟨a', ⟨fun r hr => ?_, fun c hc v hv => ?_, fun c hc p hp => ?_⟩, ?_⟩
      · rw [h2 r (by omega) (by omega)]; exact p1 r (by omega)
      · by_cases q : c = k
        · subst q; rw [h3 v hv, es _ (by omega) (by omega)]
        · rw [h2 _ (by omega) (by omega)]; exact p2 c (by omega) v hv
      · by_cases q : c = k
        · subst q; rw [h4 p hp, es _ (by omega) (by omega)]
        · rw [h2 _ (by omega) (by omega)]; exact p3 c (by omega) p hp
      · rw [f_X8_copyFrom_98, p1 b (by omega), b2.2.2.2.2, if_neg (by omega), if_pos (by omega), Int.toNat_natCast, h1]; rfl) N 0 s21 (by omega) (by omega) ⟨fun _ _ => rfl, fun c hc => by omega, fun c hc => by omega⟩
  rw [show f_X8_copyFrom_98 b s N s21 0 = some s34 from e34, Option.bind_some]
  obtain ⟨t, f1, f2, f3, f4, f5⟩ := c_tkcopy (a0 := s34) hN hd h G Rb Rs (fun r q1 q2 => by rw [p1 r (by omega), b1 r (by omega)]) (fun r q1 q2 => by rw [p1 r (by omega), b1 r (by omega)])
  rw [f1]
  refine ⟨t, rfl, ?_, fun r hr => ?_, f3⟩
  · have tk : ∀ k, tkr b t k = tkr b σ k := fun k => by unfold tkr; rw [f3]
    have c1 : ∀ r, b ≤ r → r < b + 4 → t r = s21 r := fun r q1 q2 => by rw [f2 r (by omega), p1 r (by omega)]
    apply NR.mk
    · rw [c1 b (by omega) (by omega)]; exact b2.1
    · rw [c1 b (by omega) (by omega)]; exact b2.2.1
    · rw [c1 b (by omega) (by omega)]; exact b2.2.2.1
    · rw [c1 b (by omega) (by omega)]; exact b2.2.2.2.1
    · rw [c1 b (by omega) (by omega)]; exact b2.2.2.2.2
    · intro i hi; rw [c1 _ (by omega) (by omega)]; exact b3 i hi
    · intro i hi; rw [c1 _ (by omega) (by omega)]; exact b4 i hi
    · intro x y hx hy; rw [c1 _ (by omega) (by omega)]; exact b5 x y hx hy
    · intro c hc
      have hh := h.li c hc
      have q : ∀ v, v < 7 → t (b + 23 + 2 * c) v = σ (s + 23 + 2 * c) v := fun v hv => by rw [f2 _ (by omega)]; exact p2 c (by omega) v hv
      rw [q 0 (by decide), q 1 (by decide), q 2 (by decide), q 3 (by decide), q 4 (by decide), q 5 (by decide), q 6 (by decide)]
      exact hh
    · intro c hc p hp
      have := (G.li c (by omega)).sz
      rw [f2 _ (by omega), p3 c (by omega) p (by omega)]
      exact h.rg c hc p hp
    · exact f4.1
    · exact f4.2.1
    · exact f4.2.2.1
    · exact f4.2.2.2.1
    · exact f4.2.2.2.2
    · intro k hk v hv; rw [tk]; exact f5 k hk v hv
  · rw [f2 r (by omega), p1 r (by omega), b1 r (by omega)]
