/-! agreement of class and model, part 90 -/
/-! ranks, trips by trying, seats, tickets: the questions with loops -/
def lnB (g : Ga) (a c : Int) : Bool := if tof g a = tof g c then (if gl g a.toNat 4 = gl g c.toNat 4 then decide (a < c) else decide (gl g a.toNat 4 < gl g c.toNat 4)) else decide (tof g c < tof g a)
def rgA (g : Ga) (s : Int) : Int := ctk (fun c => 0 ≤ pla g c s) (g 2).toNat
def wlA (g : Ga) (s : Int) : Int := ctk (fun o => 0 < wlki g s o) (g 0).toNat
def stB (g : Ga) (a c : Int) : Bool := if rgA g a = rgA g c then (if wlA g a = wlA g c then decide (a < c) else decide (wlA g c < wlA g a)) else decide (rgA g c < rgA g a)
def rnk (P : Int → Int → Bool) (n : Nat) (k : Nat) : Int := ctk (fun o => P o k) n
def ofR (P : Int → Int → Bool) (n : Nat) (r : Int) : Int := ffd (fun k => rnk P n k = r) n
theorem lnB_self (g : Ga) (a : Int) : lnB g a a = false := by unfold lnB; simp
theorem stB_self (g : Ga) (a : Int) : stB g a a = false := by unfold stB; simp
section RK
variable {b : Nat} {σ μ : Sm} {g : Ga} {K : Int} {N : Nat}
theorem pla_rng (g : Ga) (c : Nat) (s : Int) : pla g c s = -1 ∨ (0 ≤ pla g c s ∧ pla g c s < gl g c 5) := by
  unfold pla
  rcases ffd_rng (fun p => decide (gl g c (7 + p) = s)) (gl g c 5).toNat with h | h
  · exact Or.inl h
  · exact Or.inr (by omega)
theorem c_lineB (h : NR b σ g) (G : GI K g) (hN : 16 < N) {a c : Nat} (ha : (a : Int) < g 2) (hc : (c : Int) < g 2) : f_X8_isLineBefore N σ b a c = some (if lnB g a c then 1 else 0) := by
  have hl := G.ln
  have t1 := tof_rng G a
  have t2 := tof_rng G c
  have s1 := (G.li a (by omega)).se
  have s2 := (G.li c (by omega)).se
  unfold f_X8_isLineBefore lnB
  simp only [Int.toNat_natCast]
  rw [c_countOfLine h G _ hN, c_countOfLine h G _ hN, Option.bind_some, Option.bind_some, bl_eq, if_pos (by unfold rng; omega), (h.li a ha).2.2.2.2.1, (h.li c hc).2.2.2.2.1, if_pos (show 0 ≤ (a : Int) ∧ (a : Int) < 5 by omega), if_pos (show 0 ≤ (c : Int) ∧ (c : Int) < 5 by omega), bl_eq, if_pos (show rng (gl g a 4 - gl g c 4) by unfold rng; omega)]
  by_cases e1 : tof g a = tof g c
  · rw [if_pos (show tof g a - tof g c = 0 by omega), if_pos e1]
    by_cases e2 : gl g a 4 = gl g c 4
    · rw [if_pos (show gl g a 4 - gl g c 4 = 0 by omega), if_pos e2]
      by_cases e3 : (a : Int) < c
      · rw [if_neg (by omega)]; simp [e3]
      · rw [if_pos (by omega)]; simp [e3]
    · rw [if_neg (show ¬ gl g a 4 - gl g c 4 = 0 by omega), if_neg e2]
      by_cases e3 : gl g a 4 < gl g c 4
      · rw [if_neg (by omega)]; simp [e3]
      · rw [if_pos (by omega)]; simp [e3]
  · rw [if_neg (show ¬ tof g a - tof g c = 0 by omega), if_neg e1]
    by_cases e3 : tof g c < tof g a
    · rw [if_neg (by omega)]; simp [e3]
    · rw [if_pos (by omega)]; simp [e3]
theorem m_lineB (G : GI K (μ 1)) (hN : 16 < N) {a c : Nat} (ha : (a : Int) < μ 1 2) (hc : (c : Int) < μ 1 2) : f_X13_isLineAhead N μ a c = some (if lnB (μ 1) a c then 1 else 0) := by
  have hl := G.ln
  unfold f_X13_isLineAhead lnB
  rw [m_ticketsOf G _ hN, m_ticketsOf G _ hN, m_l4 (by omega), m_l4 (by omega)]
  simp only [Option.bind_some, Int.toNat_natCast]
  by_cases e1 : tof (μ 1) a = tof (μ 1) c
  · rw [if_pos e1, if_pos e1]
    by_cases e2 : gl (μ 1) a 4 = gl (μ 1) c 4
    · rw [if_neg (show ¬ gl (μ 1) a 4 < gl (μ 1) c 4 by omega), if_pos e2, if_pos e2]
      by_cases e3 : (a : Int) < c
      · rw [if_neg (by omega)]; simp [e3]
      · rw [if_pos (by omega)]; simp [e3]
    · rw [if_neg e2, if_neg e2]
      by_cases e3 : gl (μ 1) a 4 < gl (μ 1) c 4
      · rw [if_pos e3]; simp [e3]
      · rw [if_neg e3]; simp [e3]
  · rw [if_neg e1, if_neg e1]
    by_cases e3 : tof (μ 1) c < tof (μ 1) a
    · rw [if_neg (by omega)]; simp [e3]
    · rw [if_pos (by omega)]; simp [e3]
theorem c_ringsAt (h : NR b σ g) (G : GI K g) (hN : 16 < N) (s : Int) : f_X8_ringsAt N σ b s = some (rgA g s) := by
  have h4 := G.ln
  obtain ⟨z, hz⟩ := Int.eq_ofNat_of_zero_le h4.1
  have e := lp_up (f_X8_ringsAt_4 N σ b s) id (ctk (fun c => decide (0 ≤ pla g c s))) z (fun n => ?_) (fun n k hk => ?_) N 0 (by omega) (by omega)
  · unfold f_X8_ringsAt rgA
    rw [hz]
    exact (congrArg (fun q => Option.bind q _) e).trans rfl
  · rw [f_X8_ringsAt_4, h.ln, if_pos (by omega)]; rfl
  · have hr := ctk_rng (fun c => decide (0 ≤ pla g c s)) k
    rw [f_X8_ringsAt_4, h.ln, if_neg (by omega), if_pos (by omega), Int.toNat_natCast, c_placeOf h G (by omega) _ (by omega), Option.bind_some, ctk]
    rcases pla_rng g k s with q | q
    · rw [if_pos q, if_neg (by rw [q]; decide), Int.add_zero]; rfl
    · rw [if_neg (by omega), if_pos (by unfold rng; omega), if_pos (by simpa using q.1)]; rfl
theorem c_walksAt (h : NR b σ g) (G : GI K g) (hN : 16 < N) {s : Int} (hs : 0 ≤ s ∧ s < g 0) : f_X8_walksAt N σ b s = some (wlA g s) := by
  have h4 := G.st
  obtain ⟨z, hz⟩ := Int.eq_ofNat_of_zero_le h4.1
  have e := lp_up (f_X8_walksAt_4 σ b s) id (ctk (fun o => decide (0 < wlki g s o))) z (fun n => ?_) (fun n k hk => ?_) N 0 (by omega) (by omega)
  · unfold f_X8_walksAt wlA
    rw [hz]
    exact (congrArg (fun q => Option.bind q _) e).trans rfl
  · rw [f_X8_walksAt_4, h.st, if_pos (by omega)]; rfl
  · have hr := ctk_rng (fun o => decide (0 < wlki g s o)) k
    rw [f_X8_walksAt_4, h.st, if_neg (by omega), c_walkB h G hs (by omega), Option.bind_some, ctk]
    by_cases q : wlki g s k ≤ 0
    · rw [if_pos q, if_neg (by simpa using q), Int.add_zero]; rfl
    · rw [if_neg q, if_pos (by unfold rng; omega), if_pos (by simp; omega)]; rfl
theorem rgA_rng (G : GI K g) (s : Int) : 0 ≤ rgA g s ∧ rgA g s ≤ 5 := by
  have h1 := ctk_rng (fun c => decide (0 ≤ pla g c s)) (g 2).toNat
  have h2 := G.ln
  unfold rgA
  omega
theorem wlA_rng (G : GI K g) (s : Int) : 0 ≤ wlA g s ∧ wlA g s ≤ 10 := by
  have h1 := ctk_rng (fun o => decide (0 < wlki g s o)) (g 0).toNat
  have h2 := G.st
  unfold wlA
  omega
theorem c_stopB (h : NR b σ g) (G : GI K g) (hN : 16 < N) {a c : Int} (ha : 0 ≤ a ∧ a < g 0) (hc : 0 ≤ c ∧ c < g 0) : f_X8_isStopBefore N σ b a c = some (if stB g a c then 1 else 0) := by
  have t1 := rgA_rng G a
  have t2 := rgA_rng G c
  have s1 := wlA_rng G a
  have s2 := wlA_rng G c
  unfold f_X8_isStopBefore stB
  rw [c_ringsAt h G hN, c_ringsAt h G hN, c_walksAt h G hN ha, c_walksAt h G hN hc]
  simp only [Option.bind_some, bl_eq]
  rw [if_pos (show rng (rgA g a - rgA g c) by unfold rng; omega), if_pos (show rng (wlA g a - wlA g c) by unfold rng; omega)]
  by_cases e1 : rgA g a = rgA g c
  · rw [if_pos (show rgA g a - rgA g c = 0 by omega), if_pos e1]
    by_cases e2 : wlA g a = wlA g c
    · rw [if_pos (show wlA g a - wlA g c = 0 by omega), if_pos e2]
      by_cases e3 : a < c
      · rw [if_neg (by omega)]; simp [e3]
      · rw [if_pos (by omega)]; simp [e3]
    · rw [if_neg (show ¬ wlA g a - wlA g c = 0 by omega), if_neg e2]
      by_cases e3 : wlA g c < wlA g a
      · rw [if_neg (by omega)]; simp [e3]
      · rw [if_pos (by omega)]; simp [e3]
  · rw [if_neg (show ¬ rgA g a - rgA g c = 0 by omega), if_neg e1]
    by_cases e3 : rgA g c < rgA g a
    · rw [if_neg (by omega)]; simp [e3]
    · rw [if_pos (by omega)]; simp [e3]
theorem m_ringsOf (G : GI K (μ 1)) (hN : 16 < N) (s : Int) : f_X13_ringsOf N μ s = some (rgA (μ 1) s) := by
  have h4 := G.ln
  obtain ⟨z, hz⟩ := Int.eq_ofNat_of_zero_le h4.1
  have e := lp_up (f_X13_ringsOf_4 N μ s) id (ctk (fun c => decide (0 ≤ pla (μ 1) c s))) z (fun n => ?_) (fun n k hk => ?_) N 0 (by omega) (by omega)
  · unfold f_X13_ringsOf rgA
    rw [hz]
    exact (congrArg (fun q => Option.bind q _) e).trans rfl
  · rw [f_X13_ringsOf_4, if_pos (by omega)]; rfl
  · have hr := ctk_rng (fun c => decide (0 ≤ pla (μ 1) c s)) k
    rw [f_X13_ringsOf_4, if_neg (by omega), m_placeIn G (by omega) _ (by omega), Option.bind_some, ctk]
    rcases pla_rng (μ 1) k s with q | q
    · rw [if_pos (by omega), bl_eq, if_pos (by unfold rng; omega), if_neg (by rw [q]; decide)]; rfl
    · rw [if_neg (by omega), bl_eq, if_pos (by unfold rng; omega), if_pos (by simpa using q.1)]; rfl
theorem m_walksOf (G : GI K (μ 1)) (hN : 16 < N) {s : Nat} (hs : (s : Int) < μ 1 0) : f_X13_walksOf N μ s = some (wlA (μ 1) s) := by
  have h4 := G.st
  obtain ⟨z, hz⟩ := Int.eq_ofNat_of_zero_le h4.1
  have e := lp_up (f_X13_walksOf_4 μ s) id (ctk (fun o => decide (0 < wlki (μ 1) s o))) z (fun n => ?_) (fun n k hk => ?_) N 0 (by omega) (by omega)
  · unfold f_X13_walksOf wlA
    rw [hz]
    exact (congrArg (fun q => Option.bind q _) e).trans rfl
  · rw [f_X13_walksOf_4, if_pos (by omega)]; rfl
  · have hr := ctk_rng (fun o => decide (0 < wlki (μ 1) s o)) k
    have e : wlki (μ 1) s k = wlk (μ 1) s k := rfl
    rw [f_X13_walksOf_4, if_neg (by omega), m_walk (by omega) (by omega), Option.bind_some, ctk, ← e]
    by_cases q : wlki (μ 1) s k ≤ 0
    · rw [if_pos q, bl_eq, if_pos (by unfold rng; omega), if_neg (by simpa using q)]; rfl
    · rw [if_neg q, bl_eq, if_pos (by unfold rng; omega), if_pos (by simp; omega)]; rfl
theorem m_stopB (G : GI K (μ 1)) (hN : 16 < N) {a c : Nat} (ha : (a : Int) < μ 1 0) (hc : (c : Int) < μ 1 0) : f_X13_isStopAhead N μ a c = some (if stB (μ 1) a c then 1 else 0) := by
  unfold f_X13_isStopAhead stB
  rw [m_ringsOf G hN, m_ringsOf G hN, m_walksOf G hN ha, m_walksOf G hN hc]
  simp only [Option.bind_some]
  by_cases e1 : rgA (μ 1) a = rgA (μ 1) c
  · rw [if_pos e1, if_pos e1]
    by_cases e2 : wlA (μ 1) a = wlA (μ 1) c
    · rw [if_neg (show ¬ wlA (μ 1) c < wlA (μ 1) a by omega), if_pos e2, if_pos e2]
      by_cases e3 : (a : Int) < c
      · rw [if_neg (by omega)]; simp [e3]
      · rw [if_pos (by omega)]; simp [e3]
    · rw [if_neg e2, if_neg e2]
      by_cases e3 : wlA (μ 1) c < wlA (μ 1) a
      · rw [if_pos e3]; simp [e3]
      · rw [if_neg e3]; simp [e3]
  · rw [if_neg e1, if_neg e1]
    by_cases e3 : rgA (μ 1) c < rgA (μ 1) a
    · rw [if_neg (by omega)]; simp [e3]
    · rw [if_pos (by omega)]; simp [e3]
theorem c_lineRank (h : NR b σ g) (G : GI K g) (hN : 16 < N) (r : Int) : f_X8_lineOfRank N σ b r = some (ofR (lnB g) (g 2).toNat r) := by
  have h4 := G.ln
  obtain ⟨z, hz⟩ := Int.eq_ofNat_of_zero_le h4.1
  have inner : ∀ k : Nat, (k : Int) < g 2 → f_X8_lineOfRank_15 N σ b r k N 0 0 = some (rnk (lnB g) z k) := fun k hk => by
    have e := lp_up (f_X8_lineOfRank_15 N σ b r k) id (ctk (fun o => lnB g o k)) z (fun n => ?_) (fun n j hj => ?_) N 0 (by omega) (by omega)
    · exact e
    · rw [f_X8_lineOfRank_15, h.ln, if_pos (by omega)]; rfl
    · have hr := ctk_rng (fun o => lnB g o k) j
      rw [f_X8_lineOfRank_15, h.ln, if_neg (by omega), c_lineB h G hN (by omega) hk, Option.bind_some, ctk]
      by_cases q : lnB g j k = true
      · rw [if_pos q, if_neg (by decide), if_pos (by unfold rng; omega)]; rfl
      · rw [if_neg q, if_pos rfl, Int.add_zero]; rfl
  have e := lp_ff (f_X8_lineOfRank_2 N σ b r) (fun v => if v = -1 then Sum.inr () else Sum.inl v) (fun k => rnk (lnB g) z k = r) z (fun n => ?_) (fun n k hk => ?_) N 0 (by omega) (by omega) (fun j hj => by omega)
  · unfold f_X8_lineOfRank ofR
    rw [hz, Int.toNat_natCast]
    rw [show ((0 : Nat) : Int) = 0 from rfl] at e
    rw [e, Option.bind_some]
    rcases ffd_rng (fun k => decide (rnk (lnB g) z k = r)) z with e2 | e2
    · rw [e2]; rfl
    · rw [if_neg (by omega)]; rfl
  · rw [f_X8_lineOfRank_2, h.ln, if_pos (by omega)]; rfl
  · rw [f_X8_lineOfRank_2, h.ln, if_neg (by omega), inner k (by omega), Option.bind_some]
    simp only [decide_eq_true_eq]
    rw [if_neg (show ¬ ((k : Int) = -1) by omega)]
    rfl
theorem c_stopRank (h : NR b σ g) (G : GI K g) (hN : 16 < N) (r : Int) : f_X8_stopOfRank N σ b r = some (ofR (stB g) (g 0).toNat r) := by
  have h4 := G.st
  obtain ⟨z, hz⟩ := Int.eq_ofNat_of_zero_le h4.1
  have inner : ∀ k : Nat, (k : Int) < g 0 → f_X8_stopOfRank_15 N σ b r k N 0 0 = some (rnk (stB g) z k) := fun k hk => by
    have e := lp_up (f_X8_stopOfRank_15 N σ b r k) id (ctk (fun o => stB g o k)) z (fun n => ?_) (fun n j hj => ?_) N 0 (by omega) (by omega)
    · exact e
    · rw [f_X8_stopOfRank_15, h.st, if_pos (by omega)]; rfl
    · have hr := ctk_rng (fun o => stB g o k) j
      rw [f_X8_stopOfRank_15, h.st, if_neg (by omega), c_stopB h G hN (by omega) (by omega), Option.bind_some, ctk]
      by_cases q : stB g j k = true
      · rw [if_pos q, if_neg (by decide), if_pos (by unfold rng; omega)]; rfl
      · rw [if_neg q, if_pos rfl, Int.add_zero]; rfl
  have e := lp_ff (f_X8_stopOfRank_2 N σ b r) (fun v => if v = -1 then Sum.inr () else Sum.inl v) (fun k => rnk (stB g) z k = r) z (fun n => ?_) (fun n k hk => ?_) N 0 (by omega) (by omega) (fun j hj => by omega)
  · unfold f_X8_stopOfRank ofR
    rw [hz, Int.toNat_natCast]
    rw [show ((0 : Nat) : Int) = 0 from rfl] at e
    rw [e, Option.bind_some]
    rcases ffd_rng (fun k => decide (rnk (stB g) z k = r)) z with e2 | e2
    · rw [e2]; rfl
    · rw [if_neg (by omega)]; rfl
  · rw [f_X8_stopOfRank_2, h.st, if_pos (by omega)]; rfl
  · rw [f_X8_stopOfRank_2, h.st, if_neg (by omega), inner k (by omega), Option.bind_some]
    simp only [decide_eq_true_eq]
    rw [if_neg (show ¬ ((k : Int) = -1) by omega)]
    rfl
/-- the model's rank, of whatever is ahead -/
theorem m_ranked (P : Int → Int → Bool) (hself : ∀ a, P a a = false) {n : Nat} (hn : n ≤ 10) (hN : 16 < N) (r l : Int) (hP : ∀ s : Sm, s 1 = μ 1 → ∀ a c : Nat, a < n → c < n → (if l = 0 then f_X13_isStopAhead N s a c else f_X13_isLineAhead N s a c) = some (if P a c then 1 else 0)) : f_X13_ranked N μ r n l = some (if ofR P n r = -1 then (upm μ 11 0 1, 0) else (upm μ 11 0 0, ofR P n r)) := by
  have inner : ∀ s : Sm, s 1 = μ 1 → ∀ k : Nat, k < n → f_X13_ranked_20 N s r n l k N 0 0 = some (rnk P n k) := fun s hs k hk => by
    have e := lp_up (f_X13_ranked_20 N s r n l k) id (ctk (fun o => P o k)) n (fun m => ?_) (fun m j hj => ?_) N 0 (by omega) (by omega)
    · exact e
    · rw [f_X13_ranked_20, if_pos (by omega)]; rfl
    · have hr := ctk_rng (fun o => P o k) j
      rw [f_X13_ranked_20, if_neg (by omega), ctk]
      have h2 := hP s hs j k hj hk
      by_cases q0 : (j : Int) = k
      · have q0' : j = k := by omega
        subst q0'
        rw [if_pos rfl, bl_eq, if_pos (by unfold rng; omega), hself, if_neg (by decide)]; rfl
      · rw [if_neg q0]
        by_cases hl : l = 0
        · rw [if_pos hl] at h2
          rw [if_pos hl, h2, Option.bind_some]
          by_cases q : P j k = true
          · rw [if_pos q, if_neg (by decide), bl_eq, if_pos (by unfold rng; omega)]; rfl
          · rw [if_neg q, if_pos rfl, bl_eq, if_pos (by unfold rng; omega)]; rfl
        · rw [if_neg hl] at h2
          rw [if_neg hl, h2, Option.bind_some]
          by_cases q : P j k = true
          · rw [if_pos q, if_neg (by decide), bl_eq, if_pos (by unfold rng; omega)]; rfl
          · rw [if_neg q, if_pos rfl, bl_eq, if_pos (by unfold rng; omega)]; rfl
  have e := lp_ff (f_X13_ranked_8 N (upm μ 11 0 0) r n l) (fun v => if v = -1 then Sum.inr () else Sum.inl (upm μ 11 0 0, v)) (fun k => rnk P n k = r) n (fun m => ?_) (fun m k hk => ?_) N 0 (by omega) (by omega) (fun j hj => by omega)
  · unfold f_X13_ranked
    rw [bl_eq]
    rw [show ((0 : Nat) : Int) = 0 from rfl] at e
    rw [e, Option.bind_some]
    have eo : ffd (fun k => decide (rnk P n k = r)) n = ofR P n r := rfl
    rw [eo]
    rcases ffd_rng (fun k => decide (rnk P n k = r)) n with e2 | e2
    · have e3 : ofR P n r = -1 := e2
      rw [e3, if_pos rfl, if_pos rfl]
      show (f_X13_fail (upm μ 11 0 0) 1).bind _ = _
      unfold f_X13_fail
      rw [bl_eq, Option.bind_some]
      have : upm (upm μ 11 0 0) 11 0 1 = upm μ 11 0 1 := by
        funext s i; unfold upm; split <;> rfl
      rw [this]
    · have e3 : 0 ≤ ofR P n r := e2.1
      rw [if_neg (by omega), if_neg (by omega)]; rfl
  · rw [f_X13_ranked_8, if_pos (by omega)]; rfl
  · rw [f_X13_ranked_8, if_neg (by omega), inner (upm μ 11 0 0) (q1 0) k hk, Option.bind_some]
    simp only [decide_eq_true_eq]
    rw [if_neg (show ¬ ((k : Int) = -1) by omega)]
    rfl
theorem op_lineByTickets (I : INV K σ μ) (hN : 16 < N) (r : Int) : OK2 (f_X12_lineByTickets N σ r) (f_X13_lineByTickets N μ r) K [(4, 1)] := by
  have h4 := I.gi.ln
  obtain ⟨n, hn⟩ := Int.eq_ofNat_of_zero_le h4.1
  have hm := m_ranked (μ := μ) (lnB (μ 1)) (lnB_self _) (n := n) (by omega) hN r 1 (fun s hs a c ha hc => by
    rw [if_neg (by decide), m_lineB (K := K) (by rw [hs]; exact I.gi) hN (by rw [hs]; omega) (by rw [hs]; omega), hs])
  unfold f_X12_lineByTickets f_X13_lineByTickets
  rw [c_lineRank I.nr I.gi hN, Option.bind_some, hn, Int.toNat_natCast, hm, Option.bind_some]
  by_cases q : ofR (lnB (μ 1)) n r = -1
  · rw [if_pos q, if_pos q]
    exact OK2.no (z := 4) (w := 1) (v := 0) I rfl rfl (by decide) (by decide)
  · rw [if_neg q, if_neg q]
    exact OK2.yes I rfl rfl
theorem op_stopByLines (I : INV K σ μ) (hN : 16 < N) (r : Int) : OK2 (f_X12_stopByLines N σ r) (f_X13_stopByLines N μ r) K [(4, 1)] := by
  have h4 := I.gi.st
  obtain ⟨n, hn⟩ := Int.eq_ofNat_of_zero_le h4.1
  have hm := m_ranked (μ := μ) (stB (μ 1)) (stB_self _) (n := n) (by omega) hN r 0 (fun s hs a c ha hc => by
    rw [if_pos rfl, m_stopB (K := K) (by rw [hs]; exact I.gi) hN (by rw [hs]; omega) (by rw [hs]; omega), hs])
  unfold f_X12_stopByLines f_X13_stopByLines
  rw [c_stopRank I.nr I.gi hN, Option.bind_some, hn, Int.toNat_natCast, hm, Option.bind_some]
  by_cases q : ofR (stB (μ 1)) n r = -1
  · rw [if_pos q, if_pos q]
    exact OK2.no (z := 4) (w := 1) (v := 0) I rfl rfl (by decide) (by decide)
  · rw [if_neg q, if_neg q]
    exact OK2.yes I rfl rfl
end RK
