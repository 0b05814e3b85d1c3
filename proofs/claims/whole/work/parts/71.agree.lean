/-! agreement of class and model, part 71 -/
/-! what class and model answer of g -/
theorem mulb {x y A B : Int} (hx : 0 ≤ x ∧ x ≤ A) (hy : 0 ≤ y ∧ y ≤ B) : 0 ≤ x * y ∧ x * y ≤ A * B := by
  refine ⟨Int.mul_nonneg hx.1 hy.1, ?_⟩
  exact Int.mul_le_mul hx.2 hy.2 hy.1 (Int.le_trans hx.1 hx.2)
def hopm (g : Ga) (c : Nat) : Int := gl g c 2 + g 6 * gl g c 3
def whn (g : Ga) (c : Nat) (t p : Int) : Int := gl g c 1 + t * gl g c 0 + p * hopm g c
def fstt (g : Ga) (c : Nat) (p m : Int) : Int := if m - gl g c 1 - p * hopm g c ≤ 0 then 0 else (m - gl g c 1 - p * hopm g c + gl g c 0 - 1) / gl g c 0
def rgs (g : Ga) (c : Nat) (p : Int) : Int := if p < gl g c 5 then gl g c (7 + p.toNat) else gl g c 7
def run (g : Ga) (c : Nat) : Bool := 2 ≤ gl g c 5 ∧ gl g c 6 = 0
def pla (g : Ga) (c : Nat) (s : Int) : Int := ffd (fun p => gl g c (7 + p) = s) (gl g c 5).toNat
def tof (g : Ga) (c : Int) : Int := ctk (fun k => gt g k 1 = c) (g 3).toNat
def wlk (g : Ga) (a b : Nat) : Int := g (32 + 10 * a + b)
theorem hopm_rng {K : Int} {g : Ga} (G : GI K g) {c : Nat} (hc : c < 5) : 0 ≤ hopm g c ∧ hopm g c ≤ 14 := by
  have L := G.li c hc
  have h1 := L.hp
  have h2 := L.dl
  unfold hopm
  rcases G.ra with h | h <;> rw [h] <;> omega
theorem hopm_pos {K : Int} {g : Ga} (G : GI K g) {c : Nat} (hc : (c : Int) < g 2) : 1 ≤ hopm g c := by
  have L := G.li c (by have := G.ln; omega)
  have h1 := L.on hc
  have h2 := L.dl
  unfold hopm
  rcases G.ra with h | h <;> rw [h] <;> omega
section CL
variable {b : Nat} {σ : Sm} {g : Ga} {K : Int} {N : Nat}
theorem c_hasStop (h : NR b σ g) (x : Int) : f_X8_hasStop σ b x = some (if 0 ≤ x ∧ x < g 0 then 1 else 0) := by
  unfold f_X8_hasStop
  rw [h.st]
  repeat' split
  all_goals first | rfl | (exfalso; omega)
theorem c_hasLine (h : NR b σ g) (x : Int) : f_X8_hasLine σ b x = some (if 0 ≤ x ∧ x < g 2 then 1 else 0) := by
  unfold f_X8_hasLine
  rw [h.ln]
  repeat' split
  all_goals first | rfl | (exfalso; omega)
theorem c_pace (h : NR b σ g) (G : GI K g) {c : Nat} (hc : (c : Int) < g 2) : f_X7_pace σ (b + 23 + 2 * c) (g 6) = some (hopm g c) := by
  have L := G.li c (by have := G.ln; omega)
  have h1 := L.hp
  have h2 := L.dl
  unfold f_X7_pace hopm
  rw [(h.li c hc).2.2.1, (h.li c hc).2.2.2.1]
  rcases G.ra with e | e
  · rw [e]; simp
  · rw [e, if_neg (by decide), if_pos (by omega), Int.one_mul]
theorem whn_rng (G : GI K g) {c : Nat} (hc : c < 5) {t p : Int} (ht : 0 ≤ t ∧ t ≤ 10000000) (hp : 0 ≤ p ∧ p ≤ 6) : 0 ≤ whn g c t p ∧ whn g c t p ≤ 600000200 := by
  have L := G.li c hc
  have h1 := mulb ht L.hw
  have h2 := mulb hp (hopm_rng G hc)
  have h3 := L.of
  unfold whn
  omega
theorem c_whenAt (h : NR b σ g) (G : GI K g) {c : Nat} (hc : (c : Int) < g 2) {t p : Int} (ht : 0 ≤ t ∧ t ≤ 10000000) (hp : 0 ≤ p ∧ p ≤ 6) : f_X7_whenAt σ (b + 23 + 2 * c) t p (g 6) = some (whn g c t p) := by
  have h1 := whn_rng G (c := c) (by have := G.ln; omega) ht hp
  unfold f_X7_whenAt
  rw [c_pace h G hc, (h.li c hc).1, (h.li c hc).2.1, Option.bind_some]
  unfold whn at h1 ⊢
  rw [if_pos (by unfold rng; omega)]
theorem fstt_rng (G : GI K g) {c : Nat} (hc : (c : Int) < g 2) {p m : Int} (hp : 0 ≤ p ∧ p ≤ 6) (hm : 0 ≤ m ∧ m ≤ 10000000) : 0 ≤ fstt g c p m ∧ fstt g c p m ≤ 10000000 := by
  have hc5 : c < 5 := by have := G.ln; omega
  have L := G.li c hc5
  have h1 := (L.on hc).1
  have h2 := mulb hp (hopm_rng G hc5)
  have h3 := L.of
  unfold fstt
  split
  · omega
  · have hd := L.hw.2
    refine ⟨Int.ediv_nonneg (by omega) (by omega), ?_⟩
    have : (m - gl g c 1 - p * hopm g c + gl g c 0 - 1) / gl g c 0 ≤ m := by
      refine Int.ediv_le_of_le_mul (by omega) ?_
      have e : 0 ≤ (m - 1) * (gl g c 0 - 1) ∨ m ≤ 0 := by
        by_cases hh : m ≤ 0
        · exact Or.inr hh
        · exact Or.inl (Int.mul_nonneg (by omega) (by omega))
      rcases e with e | e
      · rw [Int.sub_mul, Int.mul_sub] at e
        omega
      · omega
    omega
theorem c_firstTrip (h : NR b σ g) (G : GI K g) {c : Nat} (hc : (c : Int) < g 2) {p m : Int} (hp : 0 ≤ p ∧ p ≤ 6) (hm : 0 ≤ m ∧ m ≤ 10000000) : f_X7_firstTrip σ (b + 23 + 2 * c) p m (g 6) = some (fstt g c p m) := by
  have hc5 : c < 5 := by have := G.ln; omega
  have L := G.li c hc5
  have h1 := (L.on hc).1
  have h2 := mulb hp (hopm_rng G hc5)
  have h3 := L.of
  have h4 := L.hw
  unfold f_X7_firstTrip
  rw [c_pace h G hc, (h.li c hc).1, (h.li c hc).2.1, Option.bind_some, bl_eq]
  unfold fstt
  rw [if_pos (by unfold rng; omega)]
  by_cases e : m - gl g c 1 - p * hopm g c ≤ 0
  · rw [if_pos e, if_pos e]
  · rw [if_neg e, if_neg e, if_pos h1, if_pos (by unfold rng; omega), if_pos (by omega)]
theorem c_stopOn (h : NR b σ g) (G : GI K g) {c : Nat} (hc : (c : Int) < g 2) {p : Int} (hp : 0 ≤ p) (hs : 0 < gl g c 5) : f_X7_stopOn σ (b + 23 + 2 * c) p = some (rgs g c p) := by
  have L := G.li c (by have := G.ln; omega)
  have h4 := L.sz
  unfold f_X7_stopOn rgs
  rw [(h.li c hc).2.2.2.2.2.2]
  by_cases e : p < gl g c 5
  · rw [if_neg (by omega), if_pos e, if_pos (by omega), h.rg c hc p.toNat (by omega)]
  · rw [if_pos (by omega), if_neg e, h.rg c hc 0 (by omega)]
theorem c_isRunning (h : NR b σ g) {c : Nat} (hc : (c : Int) < g 2) : f_X7_isRunning σ (b + 23 + 2 * c) = some (if run g c then 1 else 0) := by
  unfold f_X7_isRunning run
  rw [(h.li c hc).2.2.2.2.2.2, (h.li c hc).2.2.2.2.2.1]
  repeat' split
  all_goals simp_all
  all_goals omega
theorem c_hasPosition (h : NR b σ g) {c : Nat} (hc : (c : Int) < g 2) (p : Int) : f_X7_hasPosition σ (b + 23 + 2 * c) p = some (if 0 ≤ p ∧ p ≤ gl g c 5 then 1 else 0) := by
  unfold f_X7_hasPosition
  rw [(h.li c hc).2.2.2.2.2.2]
  repeat' split
  all_goals first | rfl | (exfalso; omega)
theorem c_placeOf (h : NR b σ g) (G : GI K g) {c : Nat} (hc : (c : Int) < g 2) (s : Int) (hN : 6 < N) : f_X7_placeOf N σ (b + 23 + 2 * c) s = some (pla g c s) := by
  have L := G.li c (by have := G.ln; omega)
  have h4 := L.sz
  obtain ⟨z, hz⟩ := Int.eq_ofNat_of_zero_le h4.1
  have e := lp_ff (f_X7_placeOf_2 σ (b + 23 + 2 * c) s) (fun v => if v = -1 then Sum.inr () else Sum.inl v) (fun p => gl g c (7 + p) = s) z (fun n => ?_) (fun n k hk => ?_) N 0 (by omega) (by omega) (fun j hj => by omega)
  · unfold f_X7_placeOf pla
    rw [hz]
    simp only [Int.toNat_natCast]
    rw [show ((0 : Nat) : Int) = 0 from rfl] at e
    rw [e, Option.bind_some]
    rcases ffd_rng (fun p => decide (gl g c (7 + p) = s)) z with e2 | e2
    · rw [e2]; rfl
    · rw [if_neg (by omega)]; rfl
  · rw [f_X7_placeOf_2, (h.li c hc).2.2.2.2.2.2, if_pos (by omega)]; rfl
  · rw [f_X7_placeOf_2, (h.li c hc).2.2.2.2.2.2, if_neg (by omega), if_pos (by omega), h.rg c hc _ (by omega)]
    simp only [Int.toNat_natCast, decide_eq_true_eq]
    rw [if_neg (show ¬ ((k : Int) = -1) by omega)]
    rfl
end CL
