/-! agreement of class and model, part 89 -/
/-! questions that one look answers -/
section QS
variable {σ μ : Sm} {g : Ga} {K : Int} {N : Nat}
theorem ck1 : f_X13_checked μ 1 = some (upm μ 11 0 0, 0) := by
  unfold f_X13_checked
  rw [if_neg (by decide), bl_eq, upm_same]
theorem ck0 : f_X13_checked μ 0 = some (upm μ 11 0 1, 1) := by
  unfold f_X13_checked
  rw [if_pos rfl, bl_eq, upm_same]
theorem q1 (w : Int) : upm μ 11 0 w 1 = μ 1 := upm_role (by decide)
theorem qG (G : GI K (μ 1)) (w : Int) : GI K (upm μ 11 0 w 1) := by rw [q1]; exact G
theorem qI (I : INV K σ μ) (w : Int) : INV K σ (upm μ 11 0 w) := ask_ok I (fun r _ _ h => upm_role h) (fun _ _ => rfl)
theorem OK2.no {fc : Option (So Sm)} {fm : Option (Sm × Int)} {xs : List (Nat × Int)} (I : INV K σ μ) {z : Nat} {w v : Int} (hc : fc = some (σ, z, 0)) (hm : fm = some (upm μ 11 0 w, v)) (hz : z ≠ 0) (hx : (z, w) ∈ xs) : OK2 fc fm K xs :=
  ⟨_, _, _, _, _, hc, hm, Or.inr ⟨hz, by rw [upm_same]; exact hx⟩, qI I w⟩
theorem OK2.yes {fc : Option (So Sm)} {fm : Option (Sm × Int)} {xs : List (Nat × Int)} (I : INV K σ μ) {r : Int} (hc : fc = some (σ, 0, r)) (hm : fm = some (upm μ 11 0 0, r)) : OK2 fc fm K xs :=
  ⟨_, _, _, _, _, hc, hm, Or.inl ⟨rfl, upm_same _ _ _ _, rfl⟩, qI I 0⟩
theorem op_transferMinutes (I : INV K σ μ) (x : Int) : OK2 (f_X12_transferMinutes σ x) (f_X13_transferMinutes μ x) K [(1, 1)] := by
  unfold f_X12_transferMinutes f_X13_transferMinutes
  rw [m_isStop I.gi, Option.bind_some]
  by_cases h1 : 0 ≤ x ∧ x < μ 1 0
  · have hz : zSt (μ 1) x = 0 := by unfold zSt; rw [if_pos h1]
    obtain ⟨j, rfl, hj10, hj⟩ := isSt_cases I.gi h1
    refine OK2.yes (r := μ 1 (12 + 2 * j)) I ?_ ?_
    · rw [cl_go (by rw [c_stopIx I.nr, hz]), if_pos (by omega), Int.toNat_natCast, ← I.nr.tr j hj]
    · rw [if_pos h1, ck1, Option.bind_some]
      dsimp only
      rw [if_pos (by decide), m_transfer hj10, Option.bind_some, q1]
  · have hz : zSt (μ 1) x = 1 := by unfold zSt; rw [if_neg h1]
    refine OK2.no (z := 1) (w := 1) (v := 0) I ?_ ?_ (by decide) (by decide)
    · rw [cl_ref (c_stopIx I.nr x) (by rw [hz]; decide), hz]; rfl
    · rw [if_neg h1, ck0, Option.bind_some]
      dsimp only
      rw [if_neg (by decide)]
theorem op_isClosed (I : INV K σ μ) (x : Int) : OK2 (f_X12_isClosed σ x) (f_X13_isClosed μ x) K [(1, 1)] := by
  unfold f_X12_isClosed f_X13_isClosed
  rw [m_isStop I.gi, Option.bind_some]
  by_cases h1 : 0 ≤ x ∧ x < μ 1 0
  · have hz : zSt (μ 1) x = 0 := by unfold zSt; rw [if_pos h1]
    obtain ⟨j, rfl, hj10, hj⟩ := isSt_cases I.gi h1
    refine OK2.yes (r := μ 1 (13 + 2 * j)) I ?_ ?_
    · rw [cl_go (by rw [c_stopIx I.nr, hz]), if_pos (by omega), Int.toNat_natCast, ← I.nr.cl j hj]
    · rw [if_pos h1, ck1, Option.bind_some]
      dsimp only
      rw [if_pos rfl, m_isOpen hj10, Option.bind_some, q1]
      rcases I.gi.cl j hj10 with h | h <;> simp [h]
  · have hz : zSt (μ 1) x = 1 := by unfold zSt; rw [if_neg h1]
    refine OK2.no (z := 1) (w := 1) (v := 0) I ?_ ?_ (by decide) (by decide)
    · rw [cl_ref (c_stopIx I.nr x) (by rw [hz]; decide), hz]; rfl
    · rw [if_neg h1, ck0, Option.bind_some]
      dsimp only
      rw [if_neg (by decide)]
theorem op_walkMinutes (I : INV K σ μ) (x y : Int) : OK2 (f_X12_walkMinutes σ x y) (f_X13_walkMinutes μ x y) K [(1, 1), (4, 2)] := by
  have hz : (zWd (μ 1) x y = 0 ∧ (0 ≤ x ∧ x < μ 1 0) ∧ (0 ≤ y ∧ y < μ 1 0)) ∨ zWd (μ 1) x y = 1 ∨ zWd (μ 1) x y = 4 := by
    unfold zWd
    repeat' split
    all_goals first | omega | (left; refine ⟨rfl, ?_⟩; omega)
  unfold f_X12_walkMinutes f_X13_walkMinutes
  rw [m_cWd I.gi, Option.bind_some, bl_eq, upm_same]
  rcases hz with ⟨h, h1, h2⟩ | h | h
  · refine OK2.yes (r := wlki (μ 1) x y) I ?_ ?_
    · rw [cl_go (by rw [c_walkedF I.nr I.gi, h]), c_walkB I.nr I.gi h1 h2, Option.bind_some]
    · obtain ⟨a, rfl, ha, -⟩ := isSt_cases I.gi h1
      obtain ⟨c, rfl, hc, -⟩ := isSt_cases I.gi h2
      rw [show (if zWd (μ 1) a c = 1 then (1 : Int) else if zWd (μ 1) a c = 4 then 2 else 0) = 0 by rw [h]; rfl, if_pos (by decide), m_walk ha hc, Option.bind_some, q1]; rfl
  · refine OK2.no (z := 1) (w := 1) (v := 0) I ?_ ?_ (by decide) (by decide)
    · rw [cl_ref (c_walkedF I.nr I.gi x y) (by rw [h]; decide), h]; rfl
    · rw [show (if zWd (μ 1) x y = 1 then (1 : Int) else if zWd (μ 1) x y = 4 then 2 else 0) = 1 by rw [h]; rfl, if_neg (by decide)]
  · refine OK2.no (z := 4) (w := 2) (v := 0) I ?_ ?_ (by decide) (by decide)
    · rw [cl_ref (c_walkedF I.nr I.gi x y) (by rw [h]; decide), h]; rfl
    · rw [show (if zWd (μ 1) x y = 1 then (1 : Int) else if zWd (μ 1) x y = 4 then 2 else 0) = 2 by rw [h]; rfl, if_neg (by decide)]
theorem op_ringSize (I : INV K σ μ) (x : Int) : OK2 (f_X12_ringSize σ x) (f_X13_ringSize μ x) K [(1, 1)] := by
  unfold f_X12_ringSize f_X13_ringSize
  rw [m_isLine I.gi, Option.bind_some]
  by_cases h1 : 0 ≤ x ∧ x < μ 1 2
  · have hz : zLn (μ 1) x = 0 := by unfold zLn; rw [if_pos h1]
    obtain ⟨c, rfl, hc5, hc⟩ := isLn_cases I.gi h1
    refine OK2.yes (r := gl (μ 1) c 5) I ?_ ?_
    · rw [cl_go (by rw [c_lineIx I.nr, hz]), if_pos (by omega), Int.toNat_natCast, ← (I.nr.li c hc).2.2.2.2.2.2]
    · rw [if_pos h1, ck1, Option.bind_some]
      dsimp only
      rw [if_pos (by decide), m_l5 hc5, Option.bind_some, q1]
  · have hz : zLn (μ 1) x = 1 := by unfold zLn; rw [if_neg h1]
    refine OK2.no (z := 1) (w := 1) (v := 0) I ?_ ?_ (by decide) (by decide)
    · rw [cl_ref (c_lineIx I.nr x) (by rw [hz]; decide), hz]; rfl
    · rw [if_neg h1, ck0, Option.bind_some]
      dsimp only
      rw [if_neg (by decide)]
theorem op_hopMinutes (I : INV K σ μ) (x : Int) : OK2 (f_X12_hopMinutes σ x) (f_X13_hopMinutes μ x) K [(1, 1)] := by
  unfold f_X12_hopMinutes f_X13_hopMinutes
  rw [m_isLine I.gi, Option.bind_some]
  by_cases h1 : 0 ≤ x ∧ x < μ 1 2
  · have hz : zLn (μ 1) x = 0 := by unfold zLn; rw [if_pos h1]
    obtain ⟨c, rfl, hc5, hc⟩ := isLn_cases I.gi h1
    refine OK2.yes (r := hopm (μ 1) c) I ?_ ?_
    · rw [cl_go (by rw [c_lineIx I.nr, hz]), if_pos (by omega), Int.toNat_natCast]
      show (f_X7_pace σ (1 + 23 + 2 * c) (σ 1 1)).bind _ = _
      rw [I.nr.ra, c_pace I.nr I.gi hc, Option.bind_some]
    · rw [if_pos h1, ck1, Option.bind_some]
      dsimp only
      rw [if_pos (by decide), m_hop (qG I.gi 0) hc5, Option.bind_some, q1]
  · have hz : zLn (μ 1) x = 1 := by unfold zLn; rw [if_neg h1]
    refine OK2.no (z := 1) (w := 1) (v := 0) I ?_ ?_ (by decide) (by decide)
    · rw [cl_ref (c_lineIx I.nr x) (by rw [hz]; decide), hz]; rfl
    · rw [if_neg h1, ck0, Option.bind_some]
      dsimp only
      rw [if_neg (by decide)]
theorem op_runs (I : INV K σ μ) (x : Int) : OK2 (f_X12_runs σ x) (f_X13_runs μ x) K [(1, 1)] := by
  unfold f_X12_runs f_X13_runs
  rw [m_isLine I.gi, Option.bind_some]
  by_cases h1 : 0 ≤ x ∧ x < μ 1 2
  · have hz : zLn (μ 1) x = 0 := by unfold zLn; rw [if_pos h1]
    obtain ⟨c, rfl, hc5, hc⟩ := isLn_cases I.gi h1
    refine OK2.yes (r := if run (μ 1) c then 1 else 0) I ?_ ?_
    · rw [cl_go (by rw [c_lineIx I.nr, hz]), if_pos (by omega), Int.toNat_natCast, c_isRunning I.nr hc, Option.bind_some]
    · rw [if_pos h1, ck1, Option.bind_some]
      dsimp only
      rw [if_pos rfl, m_isRunning hc5, Option.bind_some, q1]
      cases run (μ 1) c <;> simp
  · have hz : zLn (μ 1) x = 1 := by unfold zLn; rw [if_neg h1]
    refine OK2.no (z := 1) (w := 1) (v := 0) I ?_ ?_ (by decide) (by decide)
    · rw [cl_ref (c_lineIx I.nr x) (by rw [hz]; decide), hz]; rfl
    · rw [if_neg h1, ck0, Option.bind_some]
      dsimp only
      rw [if_neg (by decide)]
theorem op_stopAt (I : INV K σ μ) (x p : Int) : OK2 (f_X12_stopAt σ x p) (f_X13_stopAt μ x p) K [(1, 1), (4, 2)] := by
  unfold f_X12_stopAt f_X13_stopAt
  rw [m_isLine I.gi, Option.bind_some]
  by_cases h1 : 0 ≤ x ∧ x < μ 1 2
  · have hz : zLn (μ 1) x = 0 := by unfold zLn; rw [if_pos h1]
    obtain ⟨c, rfl, hc5, hc⟩ := isLn_cases I.gi h1
    have sz := (I.gi.li c hc5).sz
    rw [cl_go (by rw [c_lineIx I.nr, hz]), if_pos (show (0 : Int) ≤ c ∧ (c : Int) < 5 by omega), Int.toNat_natCast, if_pos (show 0 ≤ (c : Int) ∧ (c : Int) < μ 1 2 from h1), if_neg (show ¬ (1 : Int) = 0 by decide), m_l5 hc5, Option.bind_some, Option.bind_some, m_in, Option.bind_some]
    have hcl : (if σ (1 + 23 + 2 * c) 6 = 0 then some (σ, 4, 0) else (f_X7_hasPosition σ (1 + 23 + 2 * c) p).bind fun v8 => if v8 = 0 then some (σ, 4, 0) else (f_X7_stopOn σ (1 + 23 + 2 * c) p).bind fun v11 => some (σ, 0, v11)) = if gl (μ 1) c 5 ≠ 0 ∧ 0 ≤ p ∧ p ≤ gl (μ 1) c 5 then (some (σ, 0, rgs (μ 1) c p) : Option (So Sm)) else some (σ, 4, 0) := by
      rw [(I.nr.li c hc).2.2.2.2.2.2, c_hasPosition I.nr hc, Option.bind_some]
      by_cases h2 : gl (μ 1) c 5 = 0
      · rw [if_pos h2, if_neg (fun z => z.1 h2)]
      · by_cases h3 : 0 ≤ p ∧ p ≤ gl (μ 1) c 5
        · rw [if_neg h2, if_pos h3, if_neg (by decide), c_stopOn I.nr I.gi hc h3.1 (by omega), Option.bind_some, if_pos ⟨h2, h3⟩]
        · rw [if_neg h2, if_neg h3, if_pos rfl, if_neg (fun z => h3 z.2)]
    have hml : (if gl (μ 1) c 5 = 0 then bl (upm μ 11 0 2) fun s5 => (if (s5 11 0) ≤ 0 then (f_X13_at s5 c p).bind fun v8 => some (s5, v8) else some (s5, 0)) else (if (if 0 ≤ p ∧ p ≤ gl (μ 1) c 5 then (1 : Int) else 0) = 0 then bl (upm μ 11 0 2) fun s16 => (if (s16 11 0) ≤ 0 then (f_X13_at s16 c p).bind fun v19 => some (s16, v19) else some (s16, 0)) else bl (upm μ 11 0 0) fun s12 => (if (s12 11 0) ≤ 0 then (f_X13_at s12 c p).bind fun v15 => some (s12, v15) else some (s12, 0)))) = if gl (μ 1) c 5 ≠ 0 ∧ 0 ≤ p ∧ p ≤ gl (μ 1) c 5 then (some (upm μ 11 0 0, rgs (μ 1) c p) : Option (Sm × Int)) else some (upm μ 11 0 2, 0) := by
      simp only [bl_eq, upm_same]
      by_cases h2 : gl (μ 1) c 5 = 0
      · rw [if_pos h2, if_neg (by decide), if_neg (fun z => z.1 h2)]
      · by_cases h3 : 0 ≤ p ∧ p ≤ gl (μ 1) c 5
        · rw [if_neg h2, if_pos h3, if_neg (by decide), if_pos (by decide), m_at (qG I.gi 0) hc5 (by rw [q1]; exact h3) (by rw [q1]; omega), Option.bind_some, q1, if_pos ⟨h2, h3⟩]
        · rw [if_neg h2, if_neg h3, if_pos rfl, if_neg (by decide), if_neg (fun z => h3 z.2)]
    by_cases h4 : gl (μ 1) c 5 ≠ 0 ∧ 0 ≤ p ∧ p ≤ gl (μ 1) c 5
    · rw [if_pos h4] at hcl hml
      exact OK2.yes I hcl hml
    · rw [if_neg h4] at hcl hml
      exact OK2.no (z := 4) (w := 2) (v := 0) I hcl hml (by decide) (by decide)
  · have hz : zLn (μ 1) x = 1 := by unfold zLn; rw [if_neg h1]
    refine OK2.no (z := 1) (w := 1) (v := 0) I ?_ ?_ (by decide) (by decide)
    · rw [cl_ref (c_lineIx I.nr x) (by rw [hz]; decide), hz]; rfl
    · rw [if_neg h1, if_pos rfl, bl_eq, upm_same, if_neg (by decide)]
theorem op_positionOf (I : INV K σ μ) (hN : 16 < N) (x s : Int) : OK2 (f_X12_positionOf N σ x s) (f_X13_positionOf N μ x s) K [(1, 1), (4, 2)] := by
  unfold f_X12_positionOf f_X13_positionOf
  rw [m_isLine I.gi, Option.bind_some, m_isStop I.gi, Option.bind_some]
  by_cases h1 : 0 ≤ x ∧ x < μ 1 2
  · rw [if_pos h1, if_neg (by decide)]
    by_cases h2 : 0 ≤ s ∧ s < μ 1 0
    · have hz : zLS (μ 1) x s = 0 := by unfold zLS; rw [if_pos ⟨h1, h2⟩]
      obtain ⟨c, rfl, hc5, hc⟩ := isLn_cases I.gi h1
      rw [cl_go (by rw [c_lsF I.nr, hz]), if_pos (show (0 : Int) ≤ c ∧ (c : Int) < 5 by omega), Int.toNat_natCast, if_pos h2, if_neg (by decide), m_placeIn I.gi hc5 _ (by omega), Option.bind_some, c_placeOf I.nr I.gi hc _ (by omega), Option.bind_some]
      rcases ffd_rng (fun p => decide (gl (μ 1) c (7 + p) = s)) (gl (μ 1) c 5).toNat with e | e
      · have e2 : pla (μ 1) c s = -1 := e
        refine OK2.no (z := 4) (w := 2) (v := 0) I ?_ ?_ (by decide) (by decide)
        · rw [e2, if_pos rfl]
        · rw [e2, if_neg (by decide), bl_eq, upm_same, if_neg (by decide)]
      · have e2 : 0 ≤ pla (μ 1) c s := e.1
        refine OK2.yes (r := pla (μ 1) c s) I ?_ ?_
        · rw [if_neg (by omega)]
        · rw [if_pos e2, bl_eq, upm_same, if_pos (by decide), m_placeIn (qG I.gi 0) hc5 _ (by omega), Option.bind_some, q1]
    · have hz : zLS (μ 1) x s = 1 := by unfold zLS; rw [if_neg (fun z => h2 z.2)]
      refine OK2.no (z := 1) (w := 1) (v := 0) I ?_ ?_ (by decide) (by decide)
      · rw [cl_ref (c_lsF I.nr x s) (by rw [hz]; decide), hz]; rfl
      · rw [if_neg h2, if_pos rfl, bl_eq, upm_same, if_neg (by decide)]
  · have hz : zLS (μ 1) x s = 1 := by unfold zLS; rw [if_neg (fun z => h1 z.1)]
    refine OK2.no (z := 1) (w := 1) (v := 0) I ?_ ?_ (by decide) (by decide)
    · rw [cl_ref (c_lsF I.nr x s) (by rw [hz]; decide), hz]; rfl
    · rw [if_neg h1, if_pos rfl, bl_eq, upm_same, if_neg (by decide)]
theorem op_tripMinute (I : INV K σ μ) (x t p : Int) : OK2 (f_X12_tripMinute σ x t p) (f_X13_tripMinute μ x t p) K [(1, 1), (2, 2), (3, 3)] := by
  unfold f_X12_tripMinute f_X13_tripMinute
  rw [m_isLine I.gi, Option.bind_some, m_in, Option.bind_some]
  by_cases h1 : 0 ≤ x ∧ x < μ 1 2
  · obtain ⟨c, rfl, hc5, hc⟩ := isLn_cases I.gi h1
    have sz := (I.gi.li c hc5).sz
    rw [if_pos h1, if_neg (by decide), m_l5 hc5, Option.bind_some, Option.bind_some, m_in, Option.bind_some]
    by_cases h2 : 0 ≤ t ∧ t ≤ 99
    · rw [if_pos h2, if_neg (by decide)]
      by_cases h3 : 0 ≤ p ∧ p ≤ gl (μ 1) c 5
      · rw [if_pos h3, if_neg (by decide)]
        by_cases h4 : 2 ≤ gl (μ 1) c 5
        · have hz : zTr (μ 1) c t p = 0 := by unfold zTr; rw [if_pos h1, Int.toNat_natCast, if_pos ⟨h2, h3⟩, if_pos h4]
          refine OK2.yes (r := whn (μ 1) c t p) I ?_ ?_
          · rw [cl_go (by rw [c_trF I.nr I.gi, hz]), if_pos (by omega), Int.toNat_natCast]
            show (f_X7_whenAt σ (1 + 23 + 2 * c) t p (σ 1 1)).bind _ = _
            rw [I.nr.ra, c_whenAt I.nr I.gi hc (by omega) (by omega), Option.bind_some]
          · rw [if_pos h4, bl_eq, upm_same, if_pos (by decide), m_minuteOf (qG I.gi 0) hc5 (by omega) (by omega), Option.bind_some, q1]
        · have hz : zTr (μ 1) c t p = 3 := by unfold zTr; rw [if_pos h1, Int.toNat_natCast, if_pos ⟨h2, h3⟩, if_neg h4]
          refine OK2.no (z := 3) (w := 3) (v := 0) I ?_ ?_ (by decide) (by decide)
          · rw [cl_ref (c_trF I.nr I.gi c t p) (by rw [hz]; decide), hz]; rfl
          · rw [if_neg h4, bl_eq, upm_same, if_neg (by decide)]
      · have hz : zTr (μ 1) c t p = 2 := by unfold zTr; rw [if_pos h1, Int.toNat_natCast, if_neg (fun z => h3 z.2)]
        refine OK2.no (z := 2) (w := 2) (v := 0) I ?_ ?_ (by decide) (by decide)
        · rw [cl_ref (c_trF I.nr I.gi c t p) (by rw [hz]; decide), hz]; rfl
        · rw [if_neg h3, if_pos rfl, bl_eq, upm_same, if_neg (by decide)]
    · have hz : zTr (μ 1) c t p = 2 := by unfold zTr; rw [if_pos h1, Int.toNat_natCast, if_neg (fun z => h2 z.1)]
      refine OK2.no (z := 2) (w := 2) (v := 0) I ?_ ?_ (by decide) (by decide)
      · rw [cl_ref (c_trF I.nr I.gi c t p) (by rw [hz]; decide), hz]; rfl
      · rw [if_neg h2, if_pos rfl, bl_eq, upm_same, if_neg (by decide)]
  · have hz : zTr (μ 1) x t p = 1 := by unfold zTr; rw [if_neg h1]
    refine OK2.no (z := 1) (w := 1) (v := 0) I ?_ ?_ (by decide) (by decide)
    · rw [cl_ref (c_trF I.nr I.gi x t p) (by rw [hz]; decide), hz]; rfl
    · rw [if_neg h1, if_pos rfl, bl_eq, upm_same, if_neg (by decide)]
theorem m_next (I : INV K σ μ) (x p m : Int) : f_X13_next μ x p m = some (if zNx (μ 1) x p m = 0 then (upm μ 11 0 0, fstt (μ 1) x.toNat p m) else (upm μ 11 0 (zNx (μ 1) x p m), 0)) := by
  unfold f_X13_next
  rw [m_isLine I.gi, Option.bind_some, m_in, Option.bind_some]
  by_cases h1 : 0 ≤ x ∧ x < μ 1 2
  · obtain ⟨c, rfl, hc5, hc⟩ := isLn_cases I.gi h1
    have sz := (I.gi.li c hc5).sz
    rw [if_pos h1, if_neg (by decide), m_l5 hc5, Option.bind_some, if_pos (by unfold rng; omega), m_in, Option.bind_some, m_isRunning hc5, Option.bind_some, Int.toNat_natCast]
    by_cases h2 : 0 ≤ p ∧ p < gl (μ 1) c 5
    · rw [if_pos (show 0 ≤ p ∧ p ≤ gl (μ 1) c 5 - 1 by omega), if_neg (by decide)]
      by_cases h3 : 0 ≤ m ∧ m ≤ 9999
      · rw [if_pos h3, if_neg (by decide)]
        by_cases h4 : run (μ 1) c = true
        · have hz : zNx (μ 1) c p m = 0 := by unfold zNx; rw [if_pos h1, Int.toNat_natCast, if_pos ⟨h2, h3⟩, if_pos h4]
          rw [if_pos h4, if_neg (by decide), hz, if_pos rfl, bl_eq, upm_same, if_pos (by decide), m_first (qG I.gi 0) (by rw [q1]; exact hc) (by omega) (by omega), Option.bind_some, q1]
        · have hz : zNx (μ 1) c p m = 3 := by unfold zNx; rw [if_pos h1, Int.toNat_natCast, if_pos ⟨h2, h3⟩, if_neg h4]
          rw [if_neg h4, if_pos rfl, hz, if_neg (by decide), bl_eq, upm_same, if_neg (by decide)]
      · have hz : zNx (μ 1) c p m = 2 := by unfold zNx; rw [if_pos h1, Int.toNat_natCast, if_neg (fun z => h3 z.2)]
        rw [if_neg h3, if_pos rfl, hz, if_neg (by decide), bl_eq, upm_same, if_neg (by decide)]
    · have hz : zNx (μ 1) c p m = 2 := by unfold zNx; rw [if_pos h1, Int.toNat_natCast, if_neg (fun z => h2 z.1)]
      rw [if_neg (show ¬ (0 ≤ p ∧ p ≤ gl (μ 1) c 5 - 1) by omega), if_pos rfl, hz, if_neg (by decide), bl_eq, upm_same, if_neg (by decide)]
  · have hz : zNx (μ 1) x p m = 1 := by unfold zNx; rw [if_neg h1]
    rw [if_neg h1, if_pos rfl, hz, if_neg (by decide), bl_eq, upm_same, if_neg (by decide)]
theorem zNx_cases (g : Ga) (x p m : Int) : (zNx g x p m = 0 ∧ (0 ≤ x ∧ x < g 2) ∧ (0 ≤ p ∧ p < gl g x.toNat 5) ∧ (0 ≤ m ∧ m ≤ 9999)) ∨ zNx g x p m = 1 ∨ zNx g x p m = 2 ∨ zNx g x p m = 3 := by
  unfold zNx
  repeat' split
  all_goals first | omega | (left; refine ⟨rfl, ?_⟩; omega)
theorem op_nextTrip (I : INV K σ μ) (x p m : Int) : OK2 (f_X12_nextTrip σ x p m) (f_X13_nextTrip μ x p m) K [(1, 1), (2, 2), (3, 3)] := by
  have hm := m_next I x p m
  unfold f_X12_nextTrip f_X13_nextTrip
  rw [hm, Option.bind_some]
  rcases zNx_cases (μ 1) x p m with ⟨h, h1, h2, h3⟩ | h | h | h
  · obtain ⟨c, rfl, hc5, hc⟩ := isLn_cases I.gi h1
    have sz := (I.gi.li c hc5).sz
    rw [Int.toNat_natCast] at h2
    refine OK2.yes (r := fstt (μ 1) c p m) I ?_ ?_
    · rw [cl_go (by rw [c_nxF I.nr I.gi, h]), if_pos (by omega), Int.toNat_natCast]
      show (f_X7_firstTrip σ (1 + 23 + 2 * c) p m (σ 1 1)).bind _ = _
      rw [I.nr.ra, c_firstTrip I.nr I.gi hc (by omega) (by omega), Option.bind_some]
    · rw [if_pos h, Int.toNat_natCast]
  all_goals
    refine OK2.no (z := (zNx (μ 1) x p m).toNat) (w := zNx (μ 1) x p m) (v := 0) I ?_ ?_ (by rw [h]; decide) (by rw [h]; decide)
    · rw [cl_ref (c_nxF I.nr I.gi x p m) (by rw [h]; decide)]
    · rw [if_neg (by rw [h]; decide)]
end QS
