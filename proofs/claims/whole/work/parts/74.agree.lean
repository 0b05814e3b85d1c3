/-! agreement of class and model, part 74 -/
/-! what the model answers -/
section MQ
variable {μ : Sm} {K : Int} {N : Nat}
theorem m_in (x l h : Int) : f_X13_in x l h = some (if l ≤ x ∧ x ≤ h then 1 else 0) := by
  unfold f_X13_in
  repeat' split
  all_goals first | rfl | (exfalso; omega)
theorem m_isStop (G : GI K (μ 1)) (x : Int) : f_X13_isStop μ x = some (if 0 ≤ x ∧ x < μ 1 0 then 1 else 0) := by
  have := G.st
  unfold f_X13_isStop
  rw [m_in, if_pos (by unfold rng; omega)]
  simp only [Option.bind_some]
  repeat' split
  all_goals first | rfl | (exfalso; omega)
theorem m_isLine (G : GI K (μ 1)) (x : Int) : f_X13_isLine μ x = some (if 0 ≤ x ∧ x < μ 1 2 then 1 else 0) := by
  have := G.ln
  unfold f_X13_isLine
  rw [m_in, if_pos (by unfold rng; omega)]
  simp only [Option.bind_some]
  repeat' split
  all_goals first | rfl | (exfalso; omega)
theorem m_st1 (G : GI K (μ 1)) {x : Int} (q : 0 ≤ x ∧ x < μ 1 0) : f_X13_isStop μ x = some 1 := by rw [m_isStop G, if_pos q]
theorem m_st0 (G : GI K (μ 1)) {x : Int} (q : ¬ (0 ≤ x ∧ x < μ 1 0)) : f_X13_isStop μ x = some 0 := by rw [m_isStop G, if_neg q]
theorem m_ln1 (G : GI K (μ 1)) {x : Int} (q : 0 ≤ x ∧ x < μ 1 2) : f_X13_isLine μ x = some 1 := by rw [m_isLine G, if_pos q]
theorem m_ln0 (G : GI K (μ 1)) {x : Int} (q : ¬ (0 ≤ x ∧ x < μ 1 2)) : f_X13_isLine μ x = some 0 := by rw [m_isLine G, if_neg q]
theorem m_areStops (G : GI K (μ 1)) (x y : Int) : f_X13_areStops μ x y = some (if (0 ≤ x ∧ x < μ 1 0) ∧ 0 ≤ y ∧ y < μ 1 0 then 1 else 0) := by
  unfold f_X13_areStops
  rw [m_isStop G, m_isStop G]
  simp only [Option.bind_some]
  repeat' split
  all_goals first | rfl | (exfalso; omega)
theorem m_isOpen {i : Nat} (hi : i < 10) : f_X13_isOpen μ (i : Int) = some (if μ 1 (13 + 2 * i) = 0 then 1 else 0) := by
  unfold f_X13_isOpen
  rw [if_pos (by omega), show ((12 + 2 * (i : Int)) + 1).toNat = 13 + 2 * i by omega]
  split <;> rfl
theorem m_transfer {i : Nat} (hi : i < 10) : f_X13_transfer μ (i : Int) = some (μ 1 (12 + 2 * i)) := by
  unfold f_X13_transfer
  rw [if_pos (by omega), show ((12 + 2 * (i : Int)) + 0).toNat = 12 + 2 * i by omega]
theorem m_walk {i j : Nat} (hi : i < 10) (hj : j < 10) : f_X13_walk μ (i : Int) (j : Int) = some (wlk (μ 1) i j) := by
  unfold f_X13_walk wlk
  rw [if_pos (by omega), show ((32 + 10 * (i : Int)) + j).toNat = 32 + 10 * i + j by omega]
theorem m_l {c v : Nat} (hc : c < 5) (hv : v < 16) : f_X13_l μ (c : Int) (v : Int) = some (gl (μ 1) c v) := by
  unfold f_X13_l gl
  rw [if_pos (by omega), show ((132 + 16 * (c : Int)) + v).toNat = 132 + 16 * c + v by omega]
theorem m_l0 {c : Nat} (hc : c < 5) : f_X13_l μ (c : Int) 0 = some (gl (μ 1) c 0) := m_l hc (v := 0) (by decide)
theorem m_l1 {c : Nat} (hc : c < 5) : f_X13_l μ (c : Int) 1 = some (gl (μ 1) c 1) := m_l hc (v := 1) (by decide)
theorem m_l2 {c : Nat} (hc : c < 5) : f_X13_l μ (c : Int) 2 = some (gl (μ 1) c 2) := m_l hc (v := 2) (by decide)
theorem m_l3 {c : Nat} (hc : c < 5) : f_X13_l μ (c : Int) 3 = some (gl (μ 1) c 3) := m_l hc (v := 3) (by decide)
theorem m_l4 {c : Nat} (hc : c < 5) : f_X13_l μ (c : Int) 4 = some (gl (μ 1) c 4) := m_l hc (v := 4) (by decide)
theorem m_l5 {c : Nat} (hc : c < 5) : f_X13_l μ (c : Int) 5 = some (gl (μ 1) c 5) := m_l hc (v := 5) (by decide)
theorem m_l6 {c : Nat} (hc : c < 5) : f_X13_l μ (c : Int) 6 = some (gl (μ 1) c 6) := m_l hc (v := 6) (by decide)
theorem m_lr {c p : Nat} (hc : c < 5) (hp : p < 9) : f_X13_l μ (c : Int) (7 + (p : Int)) = some (gl (μ 1) c (7 + p)) := m_l hc (v := 7 + p) (by omega)
theorem m_t {k v : Nat} (hk : k < 16) (hv : v < 8) : f_X13_t μ (k : Int) (v : Int) = some (gt (μ 1) k v) := by
  unfold f_X13_t gt
  rw [if_pos (by omega), show ((212 + 8 * (k : Int)) + v).toNat = 212 + 8 * k + v by omega]
theorem m_t0 {k : Nat} (hk : k < 16) : f_X13_t μ (k : Int) 0 = some (gt (μ 1) k 0) := m_t hk (v := 0) (by decide)
theorem m_t1 {k : Nat} (hk : k < 16) : f_X13_t μ (k : Int) 1 = some (gt (μ 1) k 1) := m_t hk (v := 1) (by decide)
theorem m_t2 {k : Nat} (hk : k < 16) : f_X13_t μ (k : Int) 2 = some (gt (μ 1) k 2) := m_t hk (v := 2) (by decide)
theorem m_t3 {k : Nat} (hk : k < 16) : f_X13_t μ (k : Int) 3 = some (gt (μ 1) k 3) := m_t hk (v := 3) (by decide)
theorem m_t4 {k : Nat} (hk : k < 16) : f_X13_t μ (k : Int) 4 = some (gt (μ 1) k 4) := m_t hk (v := 4) (by decide)
theorem m_t5 {k : Nat} (hk : k < 16) : f_X13_t μ (k : Int) 5 = some (gt (μ 1) k 5) := m_t hk (v := 5) (by decide)
theorem m_hop (G : GI K (μ 1)) {c : Nat} (hc : c < 5) : f_X13_hop μ (c : Int) = some (hopm (μ 1) c) := by
  have h1 := hopm_rng G hc
  unfold hopm at h1
  unfold f_X13_hop hopm
  rw [m_l2 hc, m_l3 hc, Option.bind_some, Option.bind_some, if_pos (by unfold rng; omega)]
theorem m_isRunning {c : Nat} (hc : c < 5) : f_X13_isRunning μ (c : Int) = some (if run (μ 1) c then 1 else 0) := by
  unfold f_X13_isRunning run
  rw [m_l5 hc, m_l6 hc]
  simp only [Option.bind_some]
  repeat' split
  all_goals simp_all
  all_goals omega
/-- at every position up to the ring's size -/
theorem m_at (G : GI K (μ 1)) {c : Nat} (hc : c < 5) {p : Int} (hp : 0 ≤ p ∧ p ≤ gl (μ 1) c 5) (hs : 0 < gl (μ 1) c 5) : f_X13_at μ (c : Int) p = some (rgs (μ 1) c p) := by
  have L := (G.li c hc).sz
  unfold f_X13_at rgs
  rw [m_l5 hc, Option.bind_some, if_pos (by omega)]
  by_cases e : p < gl (μ 1) c 5
  · rw [Int.emod_eq_of_lt hp.1 e, if_pos e, if_pos (by unfold rng; omega)]
    obtain ⟨k, rfl⟩ := Int.eq_ofNat_of_zero_le hp.1
    rw [m_lr hc (by omega)]; rfl
  · have e2 : p = gl (μ 1) c 5 := by omega
    rw [if_neg e, e2, Int.emod_self, if_pos (by unfold rng; omega)]
    exact (congrArg (fun q => Option.bind q _) (m_lr hc (p := 0) (by omega))).trans rfl
theorem m_placeIn (G : GI K (μ 1)) {c : Nat} (hc : c < 5) (s : Int) (hN : 6 < N) : f_X13_placeIn N μ (c : Int) s = some (pla (μ 1) c s) := by
  have h4 := (G.li c hc).sz
  obtain ⟨z, hz⟩ := Int.eq_ofNat_of_zero_le h4.1
  have e := lp_ff (f_X13_placeIn_2 μ c s) (fun v => if v = -1 then Sum.inr () else Sum.inl v) (fun p => gl (μ 1) c (7 + p) = s) z (fun n => ?_) (fun n k hk => ?_) N 0 (by omega) (by omega) (fun j hj => by omega)
  · unfold f_X13_placeIn pla
    rw [hz, Int.toNat_natCast]
    rw [show ((0 : Nat) : Int) = 0 from rfl] at e
    rw [e, Option.bind_some]
    rcases ffd_rng (fun p => decide (gl (μ 1) c (7 + p) = s)) z with e2 | e2
    · rw [e2]; rfl
    · rw [if_neg (by omega)]; rfl
  · rw [f_X13_placeIn_2, m_l5 hc, Option.bind_some, if_pos (by omega)]; rfl
  · rw [f_X13_placeIn_2, m_l5 hc, Option.bind_some, if_neg (by omega), if_pos (by unfold rng; omega), m_lr hc (by omega), Option.bind_some]
    simp only [decide_eq_true_eq]
    rw [if_neg (show ¬ ((k : Int) = -1) by omega)]
    rfl
theorem m_minuteOf (G : GI K (μ 1)) {c : Nat} (hc : c < 5) {t p : Int} (ht : 0 ≤ t ∧ t ≤ 10000000) (hp : 0 ≤ p ∧ p ≤ 6) : f_X13_minuteOf μ (c : Int) t p = some (whn (μ 1) c t p) := by
  have h1 := whn_rng G hc ht hp
  unfold whn at h1
  unfold f_X13_minuteOf whn
  rw [m_l1 hc, m_l0 hc, m_hop G hc, Option.bind_some, Option.bind_some, Option.bind_some, if_pos (by unfold rng; omega)]
theorem m_first (G : GI K (μ 1)) {c : Nat} (hc : (c : Int) < μ 1 2) {p m : Int} (hp : 0 ≤ p ∧ p ≤ 6) (hm : 0 ≤ m ∧ m ≤ 10000000) : f_X13_first μ (c : Int) p m = some (fstt (μ 1) c p m) := by
  have hc5 : c < 5 := by have := G.ln; omega
  have L := G.li c hc5
  have h1 := (L.on hc).1
  have h2 := mulb hp (hopm_rng G hc5)
  have h3 := L.of
  have h4 := L.hw
  have e : m - whn (μ 1) c 0 p = m - gl (μ 1) c 1 - p * hopm (μ 1) c := by unfold whn; rw [Int.zero_mul]; omega
  unfold f_X13_first fstt
  rw [m_minuteOf G hc5 (by omega) hp, Option.bind_some, bl_eq, e, if_pos (by unfold rng; omega), m_l0 hc5, Option.bind_some, Option.bind_some]
  by_cases q : m - gl (μ 1) c 1 - p * hopm (μ 1) c ≤ 0
  · rw [if_pos q, if_neg (by omega)]
  · rw [if_neg q, if_pos (by omega), if_pos (by unfold rng; omega), if_pos (by omega)]
theorem m_ticketsOf (G : GI K (μ 1)) (c : Int) (hN : 16 < N) : f_X13_ticketsOf N μ c = some (tof (μ 1) c) := by
  have h4 := G.tk
  obtain ⟨z, hz⟩ := Int.eq_ofNat_of_zero_le h4.1
  have e := lp_up (f_X13_ticketsOf_4 μ c) id (ctk (fun k => decide (gt (μ 1) k 1 = c))) z (fun n => ?_) (fun n k hk => ?_) N 0 (by omega) (by omega)
  · unfold f_X13_ticketsOf tof
    rw [hz]
    exact (congrArg (fun q => Option.bind q _) e).trans rfl
  · rw [f_X13_ticketsOf_4, if_pos (by omega)]; rfl
  · have hr := ctk_rng (fun k => decide (gt (μ 1) k 1 = c)) k
    rw [f_X13_ticketsOf_4, if_neg (by omega), m_t1 (by omega), Option.bind_some, ctk]
    by_cases q : gt (μ 1) k 1 = c
    · rw [if_pos q, bl_eq, if_pos (by unfold rng; omega), if_pos (by simpa using q)]; rfl
    · rw [if_neg q, bl_eq, if_pos (by unfold rng; omega), if_neg (by simpa using q)]; rfl
theorem m_ticket (G : GI K (μ 1)) (i : Int) (hN : 16 < N) : f_X13_ticket N μ i = some (plt (μ 1) i) := by
  have h4 := G.tk
  obtain ⟨z, hz⟩ := Int.eq_ofNat_of_zero_le h4.1
  have e := lp_ff (f_X13_ticket_2 μ i) (fun v => if v = -1 then Sum.inr () else Sum.inl v) (fun k => gt (μ 1) k 0 = i) z (fun n => ?_) (fun n k hk => ?_) N 0 (by omega) (by omega) (fun j hj => by omega)
  · unfold f_X13_ticket plt
    rw [hz, Int.toNat_natCast]
    rw [show ((0 : Nat) : Int) = 0 from rfl] at e
    rw [e, Option.bind_some]
    rcases ffd_rng (fun k => decide (gt (μ 1) k 0 = i)) z with e2 | e2
    · rw [e2]; rfl
    · rw [if_neg (by omega)]; rfl
  · rw [f_X13_ticket_2, if_pos (by omega)]; rfl
  · rw [f_X13_ticket_2, if_neg (by omega), m_t0 (by omega), Option.bind_some]
    simp only [decide_eq_true_eq]
    rw [if_neg (show ¬ ((k : Int) = -1) by omega)]
    rfl
theorem m_soldOn (G : GI K (μ 1)) (c t p : Int) (hN : 16 < N) : f_X13_soldOn N μ c t p = some (sold (μ 1) c t p) := by
  have h4 := G.tk
  obtain ⟨z, hz⟩ := Int.eq_ofNat_of_zero_le h4.1
  have e := lp_up (f_X13_soldOn_6 μ c t p) id (ctk (fun k => decide (gt (μ 1) k 1 = c ∧ gt (μ 1) k 2 = t ∧ gt (μ 1) k 3 ≤ p ∧ p < gt (μ 1) k 4))) z (fun n => ?_) (fun n k hk => ?_) N 0 (by omega) (by omega)
  · unfold f_X13_soldOn sold
    rw [hz]
    exact (congrArg (fun q => Option.bind q _) e).trans rfl
  · rw [f_X13_soldOn_6, if_pos (by omega)]; rfl
  · have hr := ctk_rng (fun k => decide (gt (μ 1) k 1 = c ∧ gt (μ 1) k 2 = t ∧ gt (μ 1) k 3 ≤ p ∧ p < gt (μ 1) k 4)) k
    rw [f_X13_soldOn_6, if_neg (by omega), m_t1 (by omega), m_t2 (by omega), m_t3 (by omega), m_t4 (by omega), ctk]
    simp only [Option.bind_some, bl_eq, Int.add_zero, decide_eq_true_eq]
    rw [if_pos (show rng _ by unfold rng; omega), if_pos (show rng _ by unfold rng; omega)]
    by_cases q : gt (μ 1) k 1 = c
    · by_cases q1 : gt (μ 1) k 2 = t
      · by_cases q2 : p < gt (μ 1) k 3
        · rw [if_pos q, if_pos q1, if_pos q2, if_neg (by omega)]; simp
        · by_cases q3 : gt (μ 1) k 4 ≤ p
          · rw [if_pos q, if_pos q1, if_neg q2, if_pos q3, if_neg (by omega)]; simp
          · rw [if_pos q, if_pos q1, if_neg q2, if_neg q3, if_pos (by omega)]; rfl
      · rw [if_pos q, if_neg q1, if_neg (by omega)]; simp
    · rw [if_neg q, if_neg (by omega)]; simp
theorem m_free (G : GI K (μ 1)) {c : Nat} (hc : c < 5) (t a e : Int) (hae : a ≤ e ∧ e ≤ a + 6) (hN : 16 < N) : f_X13_free N μ c t a e = some (fre (μ 1) c t a e) := by
  obtain ⟨z, hz⟩ := Int.eq_ofNat_of_zero_le (show 0 ≤ e - a by omega)
  have e9 := lp_up (fun n v k => f_X13_free_6 N μ c t e n v (a + k)) id (mxh (fun i => sold (μ 1) c t (a + i))) z (fun n => ?_) (fun n k hk => ?_) N 0 (by omega) (by omega)
  · have h1 := fre_rng G hc t a e
    unfold f_X13_free
    unfold fre at h1 ⊢
    rw [hz, Int.toNat_natCast] at h1 ⊢
    have e2 : f_X13_free_6 N μ c t e N 0 a = some (mxh (fun i => sold (μ 1) c t (a + i)) z) := by
      have e3 : a + ((0 : Nat) : Int) = a := by omega
      rw [e3] at e9; exact e9
    rw [e2, Option.bind_some, m_l4 hc, Option.bind_some, if_pos (by unfold rng; omega)]
  · show f_X13_free_6 N μ c t e (n + 1) _ (a + (z : Int)) = _
    rw [f_X13_free_6, if_pos (by omega)]; rfl
  · show f_X13_free_6 N μ c t e (n + 1) _ (a + (k : Int)) = f_X13_free_6 N μ c t e n _ (a + ((k + 1 : Nat) : Int))
    rw [f_X13_free_6, if_neg (by omega), m_soldOn G _ _ _ hN, Option.bind_some, Option.bind_some, show a + ((k + 1 : Nat) : Int) = a + (k : Int) + 1 by omega, mxh]
    by_cases q : sold (μ 1) c t (a + k) ≤ mxh (fun i => sold (μ 1) c t (a + i)) k
    · rw [if_pos q, if_neg (by omega)]
    · rw [if_neg q, if_pos (by omega)]
end MQ
