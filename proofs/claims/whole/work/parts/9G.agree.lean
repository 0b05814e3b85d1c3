/-! agreement of class and model, part 9G -/
/-! the model's sets of stops -/
def bs (x : Int) (i : Nat) : Bool := decide (x / 2 ^ i % 2 = 1)
def mset (g : Ga) (x : Int) : Prop := 0 ≤ x ∧ x < 1024 ∧ ∀ i, bs x i = true → (i : Int) < g 0
def scn (g : Ga) (x : Int) : Int := ctk (fun i => bs x i) (g 0).toNat
section MB
variable {σ μ : Sm} {g L C : Ga} {K x y : Int} {N f t i j c : Nat}
theorem bs_nat (n i : Nat) : bs (n : Int) i = n.testBit i := by
  unfold bs
  rw [Nat.testBit_eq_decide_div_mod_eq]
  congr 1
  apply propext
  constructor
  · intro h; exact_mod_cast h
  · intro h; exact_mod_cast h
theorem bs_or {x : Int} (hx : 0 ≤ x) (i j : Nat) : bs (ior x (1 * 2 ^ j)) i = (bs x i || decide (i = j)) := by
  obtain ⟨n, rfl⟩ := Int.eq_ofNat_of_zero_le hx
  have e : ((1 * 2 ^ j : Int)).toNat = 2 ^ j := by
    rw [Int.one_mul]
    exact Int.toNat_natCast (2 ^ j)
  show bs (((n : Int).toNat ||| ((1 * 2 ^ j : Int)).toNat : Nat) : Int) i = _
  rw [e, Int.toNat_natCast, bs_nat, bs_nat, Nat.testBit_or, Nat.testBit_two_pow]
  congr 1
  by_cases h : j = i
  · subst h; simp
  · simp [h]; exact fun e => h e.symm
theorem ior_lt {x : Int} (hx : 0 ≤ x ∧ x < 1024) {j : Nat} (hj : j < 10) : 0 ≤ ior x (1 * 2 ^ j) ∧ ior x (1 * 2 ^ j) < 1024 := by
  obtain ⟨n, rfl⟩ := Int.eq_ofNat_of_zero_le hx.1
  have e : ((1 * 2 ^ j : Int)).toNat = 2 ^ j := by
    rw [Int.one_mul]
    exact Int.toNat_natCast (2 ^ j)
  have h1 : 2 ^ j < 2 ^ 10 := Nat.pow_lt_pow_right (by decide) hj
  have h2 : n ||| 2 ^ j < 2 ^ 10 := Nat.or_lt_two_pow (by omega) h1
  show 0 ≤ (((n : Int).toNat ||| ((1 * 2 ^ j : Int)).toNat : Nat) : Int) ∧ (((n : Int).toNat ||| ((1 * 2 ^ j : Int)).toNat : Nat) : Int) < 1024
  rw [e, Int.toNat_natCast]
  omega
theorem mset_add (h : mset g x) (hs : g 0 ≤ 10) (hj : (j : Int) < g 0) : mset g (ior x (1 * 2 ^ j)) ∧ ∀ i, bs (ior x (1 * 2 ^ j)) i = true ↔ bs x i = true ∨ i = j := by
  have e : ∀ i, bs (ior x (1 * 2 ^ j)) i = true ↔ bs x i = true ∨ i = j := fun i => by
    rw [bs_or h.1]; simp
  have h2 := ior_lt ⟨h.1, h.2.1⟩ (j := j) (by omega)
  refine ⟨⟨h2.1, h2.2, fun i hi => ?_⟩, e⟩
  rcases (e i).mp hi with h3 | rfl
  · exact h.2.2 i h3
  · exact hj
theorem mset_one (hs : g 0 ≤ 10) (hj : (j : Int) < g 0) : mset g (1 * 2 ^ j) ∧ ∀ i, bs (1 * 2 ^ j) i = true ↔ i = j := by
  have e0 : ior 0 (1 * 2 ^ j) = 1 * 2 ^ j := by
    have e : ((1 * 2 ^ j : Int)).toNat = 2 ^ j := by
      rw [Int.one_mul]
      exact Int.toNat_natCast (2 ^ j)
    show ((((0 : Int).toNat ||| ((1 * 2 ^ j : Int)).toNat : Nat)) : Int) = _
    rw [e, show (0 : Int).toNat = 0 from rfl, Nat.zero_or]
    simp
  have z : ∀ i, bs 0 i = false := fun i => by
    have := bs_nat 0 i
    simpa using this
  have m0 : mset g 0 := ⟨by decide, by decide, fun i hi => by rw [z] at hi; cases hi⟩
  obtain ⟨h1, h2⟩ := mset_add (j := j) m0 hs hj
  rw [e0] at h1 h2
  refine ⟨h1, fun i => ?_⟩
  rw [h2 i, z]; simp
theorem m_has (hx : 0 ≤ x) (hi : i < 32) : f_X13_has x i = some (if bs x i = true then 1 else 0) := by
  unfold f_X13_has bs
  rw [if_pos (by omega), if_pos hx, Int.toNat_natCast]
  by_cases h : x / 2 ^ i % 2 = 1
  · rw [if_pos h, if_pos (by simpa using h)]
  · rw [if_neg h, if_neg (by simpa using h)]
theorem pow_nn (j : Nat) : 0 ≤ (1 : Int) * 2 ^ j := by
  rw [Int.one_mul]
  exact Int.pow_nonneg (by decide)
theorem m_w27 (G : GI K (μ 1)) (hN : 16 < N) (x3 : Int) (hi : (i : Int) < μ 1 0) (hx : mset (μ 1) x) : ∃ y, f_X13_walked_27 μ x3 i N x 0 = some y ∧ mset (μ 1) y ∧ (∀ j, bs x j = true → bs y j = true) ∧ (∀ j, bs y j = true → bs x j = true ∨ (wX (μ 1) i j ∧ bs x i = true)) ∧ (bs x i = true → ∀ j, wX (μ 1) i j → bs y j = true) := by
  have hs := G.st
  obtain ⟨z, hz⟩ := Int.eq_ofNat_of_zero_le hs.1
  obtain ⟨v, ⟨p1, p2, p3, p4⟩, e⟩ := lp_inv (fun n (v : Int) k => f_X13_walked_27 μ x3 i n v k) id (fun k v => mset (μ 1) v ∧ (∀ j, bs x j = true → bs v j = true) ∧ (∀ j, bs v j = true → bs x j = true ∨ (wX (μ 1) i j ∧ bs x i = true)) ∧ (bs x i = true → ∀ j, j < k → wX (μ 1) i j → bs v j = true)) z (fun n' v hP => by
      show f_X13_walked_27 μ x3 i (n' + 1) v (z : Int) = _
      rw [f_X13_walked_27, if_pos (by omega)]; rfl) (fun n' k v hk hP => by
      obtain ⟨p1, p2, p3, p4⟩ := hP
      have hks : (k : Int) < μ 1 0 := by omega
      have bi : bs v i = true → bs x i = true := fun h => by
        rcases p3 i h with h | h
        · exact h
        · exact h.2
      have skip : ¬ (bs v i = true ∧ wX (μ 1) i k) → (bs x i = true → ∀ j, j < k + 1 → wX (μ 1) i j → bs v j = true) := fun hh hxi j hj hw => by
        by_cases e : j = k
        · subst e; exact absurd ⟨p2 i hxi, hw⟩ hh
        · exact p4 hxi j (by omega) hw
      have head : f_X13_walked_27 μ x3 i (n' + 1) v (k : Int) = (if bs v i = true ∧ wlk (μ 1) i k > 0 ∧ μ 1 (13 + 2 * i) = 0 ∧ μ 1 (13 + 2 * k) = 0 then f_X13_walked_27 μ x3 i n' (ior v (1 * 2 ^ k)) ((k : Int) + 1) else f_X13_walked_27 μ x3 i n' v ((k : Int) + 1)) := by
        have ir := ior_lt ⟨p1.1, p1.2.1⟩ (j := k) (by omega)
        rw [f_X13_walked_27, if_neg (by omega), m_has p1.1 (by omega), Option.bind_some]
        by_cases q1 : bs v i = true
        · rw [if_pos q1, if_neg (by decide), m_walk (by omega) (by omega), Option.bind_some]
          by_cases q2 : wlk (μ 1) i k ≤ 0
          · rw [if_pos q2, if_neg (fun h => by omega)]
          · rw [if_neg q2, m_isOpen (by omega), Option.bind_some]
            by_cases q3 : μ 1 (13 + 2 * i) = 0
            · rw [if_pos q3, if_neg (by decide), m_isOpen (by omega), Option.bind_some]
              by_cases q4 : μ 1 (13 + 2 * k) = 0
              · rw [if_pos q4, if_neg (by decide), if_pos (by omega), if_pos p1.1, Int.toNat_natCast, if_pos (pow_nn k), bl_eq, if_pos (by unfold rng; omega), if_pos ⟨q1, by omega, q3, q4⟩]
              · rw [if_neg q4, if_pos rfl, if_neg (fun h => q4 h.2.2.2)]
            · rw [if_neg q3, if_pos rfl, if_neg (fun h => q3 h.2.2.1)]
        · rw [if_neg q1, if_pos rfl, if_neg (fun h => q1 h.1)]
      by_cases q : bs v i = true ∧ wlk (μ 1) i k > 0 ∧ μ 1 (13 + 2 * i) = 0 ∧ μ 1 (13 + 2 * k) = 0
      · have hw : wX (μ 1) i k := ⟨hi, hks, q.2.1, q.2.2.1, q.2.2.2⟩
        obtain ⟨a1, a2⟩ := mset_add (j := k) p1 hs.2 hks
        refine ⟨_, ⟨a1, fun j hj => (a2 j).mpr (Or.inl (p2 j hj)), fun j hj => ?_, fun hxi j hj hw => ?_⟩, by
          show f_X13_walked_27 μ x3 i (n' + 1) v (k : Int) = _
          rw [head, if_pos q]; rfl⟩
        · rcases (a2 j).mp hj with h | rfl
          · exact p3 j h
          · exact Or.inr ⟨hw, bi q.1⟩
        · refine (a2 j).mpr ?_
          by_cases e : j = k
          · exact Or.inr e
          · exact Or.inl (p4 hxi j (by omega) hw)
      · refine ⟨v, ⟨p1, p2, p3, skip (fun h => q ⟨h.1, h.2.2.2.1, h.2.2.2.2.1, h.2.2.2.2.2⟩)⟩, by
          show f_X13_walked_27 μ x3 i (n' + 1) v (k : Int) = _
          rw [head, if_neg q]; rfl⟩) N 0 x (by omega) (by omega) ⟨hx, fun _ h => h, fun j h => Or.inl h, fun _ j hj => by omega⟩
  exact ⟨v, e, p1, p2, p3, fun h j hw => p4 h j (by have := hw.2.1; omega) hw⟩
/-- only along walks -/
def byW (g : Ga) (x y : Int) : Prop := ∀ P : Nat → Prop, (∀ i j, wX g i j → P i → P j) → (∀ i, bs x i = true → P i) → ∀ i, bs y i = true → P i
theorem m_w13 (G : GI K (μ 1)) (hN : 16 < N) (x3 : Int) (hx : mset (μ 1) x) : ∃ y, f_X13_walked_13 N μ x3 N x 0 = some y ∧ mset (μ 1) y ∧ (∀ j, bs x j = true → bs y j = true) ∧ byW (μ 1) x y ∧ ∀ i j, bs x i = true → wX (μ 1) i j → bs y j = true := by
  have hs := G.st
  obtain ⟨z, hz⟩ := Int.eq_ofNat_of_zero_le hs.1
  obtain ⟨v, ⟨p1, p2, p3, p4⟩, e⟩ := lp_inv (fun n (v : Int) k => f_X13_walked_13 N μ x3 n v k) id (fun k v => mset (μ 1) v ∧ (∀ j, bs x j = true → bs v j = true) ∧ byW (μ 1) x v ∧ ∀ i j, i < k → bs x i = true → wX (μ 1) i j → bs v j = true) z (fun n' v hP => by
      show f_X13_walked_13 N μ x3 (n' + 1) v (z : Int) = _
      rw [f_X13_walked_13, if_pos (by omega)]; rfl) (fun n' k v hk hP => by
      obtain ⟨p1, p2, p3, p4⟩ := hP
      obtain ⟨w, w1, w2, w3, w4, w5⟩ := m_w27 (i := k) (N := N) G hN x3 (by omega) p1
      refine ⟨w, ⟨w2, fun j h => w3 j (p2 j h), fun P h1 h2 j hj => ?_, fun i j hi hxi hw => ?_⟩, ?_⟩
      · rcases w4 j hj with h | ⟨h, h'⟩
        · exact p3 P h1 h2 j h
        · exact h1 k j h (p3 P h1 h2 k h')
      · by_cases e : i = k
        · subst e; exact w5 (p2 i hxi) j hw
        · exact w3 j (p4 i j (by omega) hxi hw)
      · show f_X13_walked_13 N μ x3 (n' + 1) v (k : Int) = _
        rw [f_X13_walked_13, if_neg (by omega), w1, Option.bind_some]; rfl) N 0 x (by omega) (by omega) ⟨hx, fun _ h => h, fun P _ h => h, fun i j hi => by omega⟩
  exact ⟨v, e, p1, p2, p3, fun i j h hw => p4 i j (by have := hw.1; omega) h hw⟩
theorem m_walked (G : GI K (μ 1)) (hN : 16 < N) (hx : mset (μ 1) x) (hf : (f : Int) < μ 1 0) (hf2 : bs x f = true) : ∃ y, f_X13_walked N μ x = some y ∧ mset (μ 1) y ∧ (∀ j, bs x j = true → bs y j = true) ∧ byW (μ 1) x y ∧ ∀ i j, bs y i = true → wX (μ 1) i j → bs y j = true := by
  have hs := G.st
  obtain ⟨v, ⟨p1, p2, p3, p4⟩, e⟩ := lp_inv (fun n (v : Int) k => f_X13_walked_4 N μ n v k) id (fun k v => mset (μ 1) v ∧ (∀ j, bs x j = true → bs v j = true) ∧ byW (μ 1) x v ∧ ((∀ i j, bs v i = true → wX (μ 1) i j → bs v j = true) ∨ (k : Int) + 1 ≤ scn (μ 1) v)) 10 (fun n' v hP => by
      show f_X13_walked_4 N μ (n' + 1) v ((10 : Nat) : Int) = _
      rw [f_X13_walked_4, if_pos (by omega)]; rfl) (fun n' k v hk hP => by
      obtain ⟨p1, p2, p3, p4⟩ := hP
      obtain ⟨w, w1, w2, w3, w4, w5⟩ := m_w13 (N := N) G hN (k : Int) p1
      refine ⟨w, ⟨w2, fun j h => w3 j (p2 j h), fun P h1 h2 j hj => w4 P h1 (p3 P h1 h2) j hj, ?_⟩, ?_⟩
      · rcases p4 with h | h
        · left
          intro i j hi hw
          exact w5 i j (w4 (fun i => bs v i = true) (fun i j hw hi => h i j hi hw) (fun _ h => h) i hi) hw
        · by_cases q : scn (μ 1) v + 1 ≤ scn (μ 1) w
          · right; omega
          · left
            intro i j hi hw
            have := ctk_eq (p := fun i => bs v i) (q := fun i => bs w i) (μ 1 0).toNat (fun k _ h => w3 k h) (by unfold scn at q; omega) (k := i) (by have := hw.1; omega) hi
            exact w5 i j this hw
      · show f_X13_walked_4 N μ (n' + 1) v (k : Int) = _
        rw [f_X13_walked_4, if_neg (by omega), w1, Option.bind_some]; rfl) N 0 x (by omega) (by omega) ⟨hx, fun _ h => h, fun P _ h => h, Or.inr (by
        have := ctk_one (p := fun i => bs x i) (k := f) (μ 1 0).toNat (by omega) hf2
        unfold scn; omega)⟩
  refine ⟨v, ?_, p1, p2, p3, ?_⟩
  · unfold f_X13_walked
    rw [show f_X13_walked_4 N μ N x 0 = some v from e]; rfl
  · rcases p4 with h | h
    · exact h
    · have := ctk_rng (fun i => bs v i) (μ 1 0).toNat
      unfold scn at h
      omega
/-- aboard before the place k of a ring -/
def abd (g : Ga) (x : Int) (c : Nat) (k : Int) : Prop := ∃ (p i : Nat), (p : Int) < k ∧ rgs g c p = (i : Int) ∧ bs x i = true ∧ opn g i
theorem m_r31 (G : GI K (μ 1)) (hN : 16 < N) (hc : (c : Int) < μ 1 2) (hr : run (μ 1) c = true) (hx : mset (μ 1) x) (hy : mset (μ 1) y) : ∃ y', f_X13_ridden_31 μ x c N y 0 0 = some y' ∧ mset (μ 1) y' ∧ (∀ j, bs y j = true → bs y' j = true) ∧ (∀ j, bs y' j = true → bs y j = true ∨ ∃ l : Int, 0 ≤ l ∧ l ≤ gl (μ 1) c 5 ∧ rgs (μ 1) c l = (j : Int) ∧ opn (μ 1) j ∧ abd (μ 1) x c l) ∧ ∀ (l : Int) (j : Nat), 0 ≤ l → l ≤ gl (μ 1) c 5 → rgs (μ 1) c l = (j : Int) → opn (μ 1) j → abd (μ 1) x c l → bs y' j = true := by
  have hs := G.st
  have hl := G.ln
  have hc5 : c < 5 := by omega
  have rs := run_sz hr
  have sz := (G.li c hc5).sz
  obtain ⟨z, hz⟩ := Int.eq_ofNat_of_zero_le (show 0 ≤ gl (μ 1) c 5 + 1 by omega)
  obtain ⟨⟨v, u⟩, ⟨p1, p2, p3, p4, p5⟩, e⟩ := lp_inv (fun n (v : Int × Int) k => f_X13_ridden_31 μ x c n v.1 v.2 k) (fun v => v.1) (fun k v => mset (μ 1) v.1 ∧ (∀ j, bs y j = true → bs v.1 j = true) ∧ (∀ j, bs v.1 j = true → bs y j = true ∨ ∃ l : Int, 0 ≤ l ∧ l < (k : Nat) ∧ rgs (μ 1) c l = (j : Int) ∧ opn (μ 1) j ∧ abd (μ 1) x c l) ∧ (∀ (l : Int) (j : Nat), 0 ≤ l → l < (k : Nat) → rgs (μ 1) c l = (j : Int) → opn (μ 1) j → abd (μ 1) x c l → bs v.1 j = true) ∧ ((v.2 = 1 ∧ abd (μ 1) x c (k : Nat)) ∨ (v.2 = 0 ∧ ¬ abd (μ 1) x c (k : Nat)))) z (fun n' v hP => by
      show f_X13_ridden_31 μ x c (n' + 1) v.1 v.2 (z : Int) = _
      rw [f_X13_ridden_31, m_l5 hc5, Option.bind_some, if_pos (by omega)]) (fun n' k v hk hP => by
      obtain ⟨p1, p2, p3, p4, p5⟩ := hP
      have rr := rgs_rng G hc5 (l := (k : Int)) (by omega) (by omega)
      obtain ⟨o, hro⟩ := Int.eq_ofNat_of_zero_le rr.1
      have hoS : (o : Int) < μ 1 0 := by omega
      have hrg : rng ((k : Int) + 1) := by unfold rng; omega
      have head : f_X13_ridden_31 μ x c (n' + 1) v.1 v.2 (k : Int) = f_X13_ridden_31 μ x c n' (if v.2 ≠ 0 ∧ μ 1 (13 + 2 * o) = 0 then ior v.1 (1 * 2 ^ o) else v.1) (if v.2 ≠ 0 ∨ (bs x o = true ∧ μ 1 (13 + 2 * o) = 0) then 1 else 0) ((k : Int) + 1) := by
        have ir := ior_lt ⟨p1.1, p1.2.1⟩ (j := o) (by omega)
        rw [f_X13_ridden_31, m_l5 hc5, Option.bind_some, if_neg (by omega), m_at G hc5 (by omega) (by omega), Option.bind_some, hro]
        rcases p5 with ⟨h, -⟩ | ⟨h, -⟩
        · have i0 : ior v.2 0 = 1 := by rw [h]; rfl
          have i1 : ior v.2 1 = 1 := by rw [h]; rfl
          rw [if_neg (by omega), m_isOpen (by omega), Option.bind_some]
          by_cases q1 : μ 1 (13 + 2 * o) = 0
          · simp only [if_pos q1]
            rw [if_neg (by decide), if_pos (by omega), if_pos p1.1, Int.toNat_natCast, if_pos (pow_nn o), bl_eq, m_has hx.1 (by omega), Option.bind_some, if_pos (show v.2 ≠ 0 ∧ μ 1 (13 + 2 * o) = 0 from ⟨by omega, q1⟩), if_pos (show v.2 ≠ 0 ∨ (bs x o = true ∧ μ 1 (13 + 2 * o) = 0) from Or.inl (by omega))]
            by_cases q2 : bs x o = true
            · rw [if_pos q2, if_neg (by decide), Option.bind_some, if_neg (by decide), bl_eq, if_pos (by unfold rng; omega), if_pos hrg, i1]
            · rw [if_neg q2, if_pos rfl, bl_eq, if_pos (by unfold rng; omega), if_pos hrg, i0]
          · rw [if_neg q1, if_pos rfl, m_has hx.1 (by omega), Option.bind_some, if_neg (show ¬ (v.2 ≠ 0 ∧ μ 1 (13 + 2 * o) = 0) from fun h => q1 h.2), if_pos (show v.2 ≠ 0 ∨ (bs x o = true ∧ μ 1 (13 + 2 * o) = 0) from Or.inl (by omega))]
            by_cases q2 : bs x o = true
            · rw [if_pos q2, if_neg (by decide), Option.bind_some, if_pos rfl, bl_eq, if_pos hrg, i0]
            · rw [if_neg q2, if_pos rfl, bl_eq, if_pos hrg, i0]
        · have i0 : ior v.2 0 = 0 := by rw [h]; rfl
          have i1 : ior v.2 1 = 1 := by rw [h]; rfl
          rw [if_pos h, m_has hx.1 (by omega), Option.bind_some, if_neg (show ¬ (v.2 ≠ 0 ∧ μ 1 (13 + 2 * o) = 0) from fun w => w.1 h)]
          by_cases q2 : bs x o = true
          · rw [if_pos q2, if_neg (by decide), m_isOpen (by omega), Option.bind_some]
            by_cases q1 : μ 1 (13 + 2 * o) = 0
            · simp only [if_pos q1]
              rw [if_neg (by decide), bl_eq, if_pos hrg, i1, if_pos (Or.inr ⟨q2, q1⟩)]
            · rw [if_neg q1, if_pos rfl, bl_eq, if_pos hrg, i0, if_neg (fun w => by
                rcases w with w | w
                · exact w h
                · exact q1 w.2)]
          · rw [if_neg q2, if_pos rfl, bl_eq, if_pos hrg, i0, if_neg (fun w => by
              rcases w with w | w
              · exact w h
              · exact q2 w.1)]
      have abs : abd (μ 1) x c ((k + 1 : Nat) : Int) ↔ abd (μ 1) x c (k : Nat) ∨ (bs x o = true ∧ μ 1 (13 + 2 * o) = 0) := by
        constructor
        · rintro ⟨p, i, h1, h2, h3, h4⟩
          by_cases e : p = k
          · subst e
            have : i = o := by omega
            subst this
            exact Or.inr ⟨h3, h4⟩
          · exact Or.inl ⟨p, i, by omega, h2, h3, h4⟩
        · rintro (⟨p, i, h1, h2⟩ | ⟨h1, h2⟩)
          · exact ⟨p, i, by omega, h2⟩
          · exact ⟨k, o, by omega, hro, h1, h2⟩
      have fl : (if v.2 ≠ 0 ∨ (bs x o = true ∧ μ 1 (13 + 2 * o) = 0) then (1 : Int) else 0) = 1 ∧ abd (μ 1) x c ((k + 1 : Nat) : Int) ∨ (if v.2 ≠ 0 ∨ (bs x o = true ∧ μ 1 (13 + 2 * o) = 0) then (1 : Int) else 0) = 0 ∧ ¬ abd (μ 1) x c ((k + 1 : Nat) : Int) := by
        rw [abs]
        rcases p5 with ⟨h, h'⟩ | ⟨h, h'⟩
        · left
          rw [if_pos (Or.inl (by omega))]
          exact ⟨rfl, Or.inl h'⟩
        · by_cases q : bs x o = true ∧ μ 1 (13 + 2 * o) = 0
          · left; rw [if_pos (Or.inr q)]; exact ⟨rfl, Or.inr q⟩
          · right
            rw [if_neg (fun w => by
              rcases w with w | w
              · exact w h
              · exact q w)]
            exact ⟨rfl, fun w => by
              rcases w with w | w
              · exact h' w
              · exact q w⟩
      by_cases q : v.2 ≠ 0 ∧ μ 1 (13 + 2 * o) = 0
      · obtain ⟨a1, a2⟩ := mset_add (j := o) p1 hs.2 hoS
        have ab : abd (μ 1) x c (k : Nat) := by
          rcases p5 with h | h
          · exact h.2
          · exact absurd h.1 q.1
        refine ⟨(ior v.1 (1 * 2 ^ o), if v.2 ≠ 0 ∨ (bs x o = true ∧ μ 1 (13 + 2 * o) = 0) then 1 else 0), ⟨a1, fun j hj => (a2 j).mpr (Or.inl (p2 j hj)), fun j hj => ?_, fun l j l1 l2 h1 h2 h3 => ?_, fl⟩, ?_⟩
        · rcases (a2 j).mp hj with h | rfl
          · rcases p3 j h with h | ⟨l, l1, l2, l3⟩
            · exact Or.inl h
            · exact Or.inr ⟨l, l1, by omega, l3⟩
          · exact Or.inr ⟨(k : Int), by omega, by omega, hro, q.2, ab⟩
        · refine (a2 j).mpr ?_
          by_cases e : l = (k : Int)
          · subst e; right; omega
          · exact Or.inl (p4 l j l1 (by omega) h1 h2 h3)
        · show f_X13_ridden_31 μ x c (n' + 1) v.1 v.2 (k : Int) = _
          rw [head, if_pos q]; rfl
      · refine ⟨(v.1, if v.2 ≠ 0 ∨ (bs x o = true ∧ μ 1 (13 + 2 * o) = 0) then 1 else 0), ⟨p1, p2, fun j hj => ?_, fun l j l1 l2 h1 h2 h3 => ?_, fl⟩, ?_⟩
        · rcases p3 j hj with h | ⟨l, l1, l2, l3⟩
          · exact Or.inl h
          · exact Or.inr ⟨l, l1, by omega, l3⟩
        · by_cases e : l = (k : Int)
          · subst e
            have : j = o := by omega
            subst this
            rcases p5 with h | h
            · exact absurd ⟨by omega, h2⟩ q
            · exact absurd h3 h.2
          · exact p4 l j l1 (by omega) h1 h2 h3
        · show f_X13_ridden_31 μ x c (n' + 1) v.1 v.2 (k : Int) = _
          rw [head, if_neg q]; rfl) N 0 (y, 0) (by omega) (by omega) ⟨hy, fun _ h => h, fun j h => Or.inl h, fun l j l1 l2 => by omega, Or.inr ⟨rfl, fun ⟨p, i, h, _⟩ => by omega⟩⟩
  refine ⟨v, e, p1, p2, fun j hj => ?_, fun l j l1 l2 => p4 l j l1 (by omega)⟩
  rcases p3 j hj with h | ⟨l, l1, l2, l3⟩
  · exact Or.inl h
  · exact Or.inr ⟨l, l1, by omega, l3⟩
end MB
