/-! agreement of class and model, part 91 -/
/-! the other plain questions; undo, save, restore, type -/
section OQ
variable {σ μ : Sm} {g : Ga} {K : Int} {N : Nat}
theorem whn_lt {c : Nat} (G : GI K g) (hc : (c : Int) < g 2) {t p m : Int} (ht : 0 ≤ t) : whn g c t p < m ↔ t < fstt g c p m := by
  have hc5 : c < 5 := by have := G.ln; omega
  have L := G.li c hc5
  have h1 := (L.on hc).1
  have h2 : 0 ≤ t * gl g c 0 := Int.mul_nonneg ht (by omega)
  unfold fstt
  by_cases q : m - gl g c 1 - p * hopm g c ≤ 0
  · rw [if_pos q]; unfold whn; omega
  · rw [if_neg q]
    have e := Int.le_ediv_iff_mul_le (a := t + 1) (b := m - gl g c 1 - p * hopm g c + gl g c 0 - 1) (c := gl g c 0) (by omega)
    have e2 : (t + 1) * gl g c 0 = t * gl g c 0 + gl g c 0 := by rw [Int.add_mul, Int.one_mul]
    unfold whn
    omega
theorem fstt_16 (G : GI K g) {c : Nat} (hc : (c : Int) < g 2) {p m : Int} (hp : 0 ≤ p ∧ p ≤ 6) (hm : 0 ≤ m ∧ m ≤ 9999) : 0 ≤ fstt g c p m ∧ fstt g c p m < 16384 := by
  have h1 := fstt_rng G hc hp (m := m) (by omega)
  have hc5 : c < 5 := by have := G.ln; omega
  have L := G.li c hc5
  have h2 := (L.on hc).1
  refine ⟨h1.1, ?_⟩
  by_cases q : fstt g c p m < 16384
  · exact q
  · have h3 := (whn_lt G hc (t := 16383) (p := p) (m := m) (by decide)).mpr (by omega)
    have h4 := mulb hp (hopm_rng G hc5)
    have h5 := L.of
    unfold whn at h3
    omega
theorem tried (h : NR 1 σ g) (G : GI K g) {c : Nat} (hc : (c : Int) < g 2) {p m : Int} (hp : 0 ≤ p ∧ p ≤ 6) (hm : 0 ≤ m ∧ m ≤ 9999) : ∀ (k n : Nat) (x s : Int), k + 1 < n → s = 2 ^ k → s ≤ 8192 → 0 ≤ x → x ≤ fstt g c p m → fstt g c p m < x + 2 * s → f_X7_firstTripTried_8 σ (1 + 23 + 2 * c) p m (g 6) n x s = some (fstt g c p m) := by
  have hF := fstt_16 G hc hp hm
  intro k
  induction k with
  | zero =>
    intro n x s hn hs _ hx h1 h2
    obtain ⟨n, rfl⟩ : ∃ k, n = k + 1 := ⟨n - 1, by omega⟩
    obtain ⟨n, rfl⟩ : ∃ k, n = k + 1 := ⟨n - 1, by omega⟩
    have hs1 : s = 1 := by rw [hs]; rfl
    subst hs1
    have hw := whn_lt G hc (t := x + 1 - 1) (p := p) (m := m) (by omega)
    rw [f_X7_firstTripTried_8, if_neg (by decide), if_pos (by unfold rng; omega), c_whenAt h G hc (by omega) hp, Option.bind_some]
    by_cases q : m ≤ whn g c (x + 1 - 1) p
    · rw [if_pos q, if_pos (by decide), bl_eq, f_X7_firstTripTried_8, if_pos (by decide)]
      congr 1; omega
    · rw [if_neg q, bl_eq, if_pos (by decide), bl_eq, if_pos (by unfold rng; omega), f_X7_firstTripTried_8, if_pos (by decide)]
      congr 1; omega
  | succ k ih =>
    intro n x s hn hs h8 hx h1 h2
    obtain ⟨n, rfl⟩ : ∃ k, n = k + 1 := ⟨n - 1, by omega⟩
    have hs2 : s = 2 ^ k * 2 := by rw [hs, Int.pow_succ]
    have hp2 : 0 < (2 : Int) ^ k := Int.pow_pos (by decide)
    have hw := whn_lt G hc (t := x + s - 1) (p := p) (m := m) (by omega)
    rw [f_X7_firstTripTried_8, if_neg (by omega), if_pos (by unfold rng; omega), c_whenAt h G hc (by omega) hp, Option.bind_some]
    by_cases q : m ≤ whn g c (x + s - 1) p
    · rw [if_pos q, if_pos (by omega), bl_eq]
      exact ih n x (s / 2) (by omega) (by omega) (by omega) hx h1 (by omega)
    · rw [if_neg q, bl_eq, if_pos (by omega), bl_eq, if_pos (by unfold rng; omega)]
      exact ih n (x + s) (s / 2) (by omega) (by omega) (by omega) (by omega) (by omega) (by omega)
theorem op_nextTripBySearch (I : INV K σ μ) (hN : 16 < N) (x p m : Int) : OK2 (f_X12_nextTripBySearch N σ x p m) (f_X13_nextTripBySearch μ x p m) K [(1, 1), (2, 2), (3, 3)] := by
  have hm := m_next I x p m
  unfold f_X12_nextTripBySearch f_X13_nextTripBySearch
  rw [hm, Option.bind_some]
  rcases zNx_cases (μ 1) x p m with ⟨h, h1, h2, h3⟩ | h | h | h
  · obtain ⟨c, rfl, hc5, hc⟩ := isLn_cases I.gi h1
    have sz := (I.gi.li c hc5).sz
    rw [Int.toNat_natCast] at h2
    have hF := fstt_16 I.gi hc (p := p) (by omega) h3
    refine OK2.yes (r := fstt (μ 1) c p m) I ?_ ?_
    · rw [cl_go (by rw [c_nxF I.nr I.gi, h]), if_pos (by omega), Int.toNat_natCast]
      show (f_X7_firstTripTried N σ (1 + 23 + 2 * c) p m (σ 1 1)).bind _ = _
      unfold f_X7_firstTripTried
      rw [I.nr.ra, tried I.nr I.gi hc (by omega) h3 13 N 0 8192 (by omega) (by decide) (by decide) (by decide) hF.1 (by omega)]; rfl
    · rw [if_pos h, Int.toNat_natCast]
  all_goals
    refine OK2.no (z := (zNx (μ 1) x p m).toNat) (w := zNx (μ 1) x p m) (v := 0) I ?_ ?_ (by rw [h]; decide) (by rw [h]; decide)
    · rw [cl_ref (c_nxF I.nr I.gi x p m) (by rw [h]; decide)]
    · rw [if_neg (by rw [h]; decide)]
theorem m_seatsLeft (I : INV K σ μ) (hN : 16 < N) (x t a e : Int) : f_X13_seatsLeft N μ x t a e = some (if zRd (μ 1) x t a e = 0 then (upm μ 11 0 0, fre (μ 1) x.toNat t a e) else (upm μ 11 0 (zRd (μ 1) x t a e), 0)) := by
  unfold f_X13_seatsLeft
  rw [m_isLine I.gi, Option.bind_some]
  by_cases h1 : 0 ≤ x ∧ x < μ 1 2
  · obtain ⟨c, rfl, hc5, hc⟩ := isLn_cases I.gi h1
    have sz := (I.gi.li c hc5).sz
    rw [if_pos h1, if_neg (by decide), m_isRide I.gi hc5, Option.bind_some, Int.toNat_natCast]
    by_cases h2 : (0 ≤ a ∧ a < e ∧ e ≤ gl (μ 1) c 5) ∧ 0 ≤ t ∧ t ≤ 99
    · have hz : zRd (μ 1) c t a e = 0 := by unfold zRd; rw [if_pos h1, Int.toNat_natCast, if_pos h2]
      rw [if_pos h2, if_neg (by decide), hz, if_pos rfl, bl_eq, upm_same, if_pos (by decide), m_free (qG I.gi 0) hc5 t a e (by omega) hN, Option.bind_some, q1]
    · have hz : zRd (μ 1) c t a e = 2 := by unfold zRd; rw [if_pos h1, Int.toNat_natCast, if_neg h2]
      rw [if_neg h2, if_pos rfl, hz, if_neg (by decide), bl_eq, upm_same, if_neg (by decide)]
  · have hz : zRd (μ 1) x t a e = 1 := by unfold zRd; rw [if_neg h1]
    rw [if_neg h1, if_pos rfl, hz, if_neg (by decide), bl_eq, upm_same, if_neg (by decide)]
theorem zRd_cases (g : Ga) (x t a e : Int) : zRd g x t a e = 0 ∨ zRd g x t a e = 1 ∨ zRd g x t a e = 2 := by
  unfold zRd
  repeat' split
  all_goals omega
theorem op_freeSeats (I : INV K σ μ) (hN : 16 < N) (x t a e : Int) : OK2 (f_X12_freeSeats N σ x t a e) (f_X13_freeSeats N μ x t a e) K [(1, 1), (2, 2)] := by
  unfold f_X12_freeSeats f_X13_freeSeats
  rw [m_seatsLeft I hN, Option.bind_some]
  rcases zRd_cases (μ 1) x t a e with h | h | h
  · obtain ⟨h1, h2, h3⟩ := zRd_0 h
    obtain ⟨c, rfl, hc5, hc⟩ := isLn_cases I.gi h1
    have sz := (I.gi.li c hc5).sz
    rw [Int.toNat_natCast] at h2
    refine OK2.yes (r := fre (μ 1) c t a e) I ?_ ?_
    · rw [cl_go (by rw [c_rdF I.nr I.gi, h]), c_seatsLeft I.nr I.gi hc t a e (by omega) hN, Option.bind_some]
    · rw [if_pos h, Int.toNat_natCast]
  all_goals
    refine OK2.no (z := (zRd (μ 1) x t a e).toNat) (w := zRd (μ 1) x t a e) (v := 0) I ?_ ?_ (by rw [h]; decide) (by rw [h]; decide)
    · rw [cl_ref (c_rdF I.nr I.gi x t a e) (by rw [h]; decide)]
    · rw [if_neg (by rw [h]; decide)]
theorem op_freeSeatsBySweep (I : INV K σ μ) (hN : 16 < N) (x t a e : Int) : OK2 (f_X12_freeSeatsBySweep N σ x t a e) (f_X13_freeSeatsBySweep N μ x t a e) K [(1, 1), (2, 2)] := by
  unfold f_X12_freeSeatsBySweep f_X13_freeSeatsBySweep
  rw [m_seatsLeft I hN, Option.bind_some]
  rcases zRd_cases (μ 1) x t a e with h | h | h
  · obtain ⟨h1, h2, h3⟩ := zRd_0 h
    obtain ⟨c, rfl, hc5, hc⟩ := isLn_cases I.gi h1
    have sz := (I.gi.li c hc5).sz
    rw [Int.toNat_natCast] at h2
    refine OK2.yes (r := fre (μ 1) c t a e) I ?_ ?_
    · rw [cl_go (by rw [c_rdF I.nr I.gi, h]), c_seatsLeftSwept I.nr I.gi hc t a e (by omega) hN, Option.bind_some]
    · rw [if_pos h, Int.toNat_natCast]
  all_goals
    refine OK2.no (z := (zRd (μ 1) x t a e).toNat) (w := zRd (μ 1) x t a e) (v := 0) I ?_ ?_ (by rw [h]; decide) (by rw [h]; decide)
    · rw [cl_ref (c_rdF I.nr I.gi x t a e) (by rw [h]; decide)]
    · rw [if_neg (by rw [h]; decide)]
theorem op_ticketAt (I : INV K σ μ) (x : Int) : OK2 (f_X12_ticketAt σ x) (f_X13_ticketAt μ x) K [(1, 1)] := by
  have h3 := I.gi.tk
  have etk : σ 6 1 = μ 1 3 := I.nr.tk
  unfold f_X12_ticketAt f_X13_ticketAt
  rw [etk, if_pos (show rng (μ 1 3 - 1) by unfold rng; omega), m_in, Option.bind_some]
  by_cases h1 : 0 ≤ x ∧ x < μ 1 3
  · obtain ⟨k, rfl⟩ := Int.eq_ofNat_of_zero_le h1.1
    refine OK2.yes (r := gt (μ 1) k 0) I ?_ ?_
    · rw [if_neg (by omega), if_pos h1.2, if_pos (by omega)]
      have : σ (σ 7 (k : Int).toNat).toNat 0 = gt (μ 1) k 0 := I.nr.ti k h1.2 0 (by decide)
      rw [this]
    · rw [if_pos (show 0 ≤ (k : Int) ∧ (k : Int) ≤ μ 1 3 - 1 by omega), ck1, Option.bind_some]
      dsimp only
      rw [if_pos (by decide), m_t0 (by omega), Option.bind_some, q1]
  · refine OK2.no (z := 1) (w := 1) (v := 0) I ?_ ?_ (by decide) (by decide)
    · by_cases h2 : x < 0
      · rw [if_pos h2]
      · rw [if_neg h2, if_neg (by omega)]
    · rw [if_neg (show ¬ (0 ≤ x ∧ x ≤ μ 1 3 - 1) by omega), ck0, Option.bind_some]
      dsimp only
      rw [if_neg (by decide)]
theorem c_known (I : INV K σ μ) (hN : 16 < N) (x : Int) : f_X12_knownTicket N σ x = some (if plt (μ 1) x = -1 then (σ, 4, 0) else (σ, 0, plt (μ 1) x)) := by
  unfold f_X12_knownTicket
  rw [show f_X11_placeOfId N σ 6 x = some (plt (μ 1) x) from c_placeOfId I.nr I.gi x hN, Option.bind_some]
  split <;> rfl
theorem m_ofTicket (I : INV K σ μ) (hN : 16 < N) (x : Int) {v : Nat} (hv : v < 8) : f_X13_ofTicket N μ x v = some (if plt (μ 1) x = -1 then (upm μ 11 0 1, 0) else (upm μ 11 0 0, gt (μ 1) (plt (μ 1) x).toNat v)) := by
  unfold f_X13_ofTicket
  rw [m_ticket I.gi x hN, Option.bind_some]
  have h16 := I.gi.tk
  rcases plt_cases I.gi x with h | ⟨p, h, h3, -⟩
  · rw [h, if_pos (by decide), ck0, Option.bind_some, if_pos rfl]
    dsimp only
    rw [if_neg (by decide)]
  · rw [h, if_neg (show ¬ (p : Int) < 0 by omega), if_neg (show ¬ (p : Int) = -1 by omega), ck1, Option.bind_some]
    dsimp only
    rw [if_pos (by decide), m_ticket (qG I.gi 0) x hN, Option.bind_some, q1, h, m_t (by omega) hv, Option.bind_some, q1, Int.toNat_natCast]
theorem tkq {fm : Option (Sm × Int)} (I : INV K σ μ) (hN : 16 < N) (x : Int) {v : Nat} (hv : v < 6) (hm : fm = (f_X13_ofTicket N μ x v).bind fun v1 => some (v1.1, v1.2)) : OK2 ((f_X12_knownTicket N σ x).bind fun v1 => if v1.2.1 = 0 then if 0 ≤ v1.2.2 ∧ v1.2.2 < 16 then some (v1.1, 0, (v1.1 (v1.1 7 v1.2.2.toNat).toNat v)) else none else some (xw v1)) fm K [(4, 1)] := by
  have h16 := I.gi.tk
  rw [hm, m_ofTicket I hN x (by omega), c_known I hN, Option.bind_some, Option.bind_some]
  rcases plt_cases I.gi x with h | ⟨p, h, h3, -⟩
  · simp only [if_pos h]
    exact OK2.no (z := 4) (w := 1) (v := 0) I rfl rfl (by decide) (by decide)
  · simp only [if_neg (show ¬ plt (μ 1) x = -1 by omega)]
    rw [h]
    refine OK2.yes (r := gt (μ 1) p v) I ?_ (by rw [Int.toNat_natCast])
    rw [if_pos trivial, if_pos (by omega)]
    have : σ (σ 7 (p : Int).toNat).toNat v = gt (μ 1) p v := I.nr.ti p h3 v hv
    rw [this]
theorem op_ticketLine (I : INV K σ μ) (hN : 16 < N) (x : Int) : OK2 (f_X12_ticketLine N σ x) (f_X13_ticketLine N μ x) K [(4, 1)] := tkq I hN x (v := 1) (by decide) rfl
theorem op_ticketTrip (I : INV K σ μ) (hN : 16 < N) (x : Int) : OK2 (f_X12_ticketTrip N σ x) (f_X13_ticketTrip N μ x) K [(4, 1)] := tkq I hN x (v := 2) (by decide) rfl
theorem op_ticketFrom (I : INV K σ μ) (hN : 16 < N) (x : Int) : OK2 (f_X12_ticketFrom N σ x) (f_X13_ticketFrom N μ x) K [(4, 1)] := tkq I hN x (v := 3) (by decide) rfl
theorem op_ticketTo (I : INV K σ μ) (hN : 16 < N) (x : Int) : OK2 (f_X12_ticketTo N σ x) (f_X13_ticketTo N μ x) K [(4, 1)] := tkq I hN x (v := 4) (by decide) rfl
theorem op_ticketPrice (I : INV K σ μ) (hN : 16 < N) (x : Int) : OK2 (f_X12_ticketPrice N σ x) (f_X13_ticketPrice N μ x) K [(4, 1)] := tkq I hN x (v := 5) (by decide) rfl
theorem m_present (x : Int) : f_X13_present μ x = some (if x < 0 then (upm μ 11 0 1, 0) else (upm μ 11 0 0, x)) := by
  unfold f_X13_present
  rw [ck0, ck1, Option.bind_some, Option.bind_some]
  by_cases h : x < 0
  · rw [if_pos h, if_pos h]; rfl
  · rw [if_neg h, if_neg h]; rfl
theorem op_errorPosition (I : INV K σ μ) : OK2 (f_X12_errorPosition σ) (f_X13_errorPosition μ) K [(4, 1)] := by
  have h := I.er
  unfold f_X12_errorPosition f_X13_errorPosition
  rw [m_present, Option.bind_some, h.1]
  by_cases q : μ 13 0 = -1
  · rw [if_pos q, if_pos (by omega)]
    exact OK2.no (z := 4) (w := 1) (v := 0) I rfl rfl (by decide) (by decide)
  · rw [if_neg q, if_neg (by omega)]
    exact OK2.yes I rfl rfl
theorem op_failedCommand (I : INV K σ μ) : OK2 (f_X12_failedCommand σ) (f_X13_failedCommand μ) K [(4, 1)] := by
  have h := I.fl
  unfold f_X12_failedCommand f_X13_failedCommand
  rw [m_present, Option.bind_some, h.1]
  by_cases q : μ 14 0 = -1
  · rw [if_pos q, if_pos (by omega)]
    exact OK2.no (z := 4) (w := 1) (v := 0) I rfl rfl (by decide) (by decide)
  · rw [if_neg q, if_neg (by omega)]
    exact OK2.yes I rfl rfl
theorem c_closed (h : NR 1 σ g) (G : GI K g) (hN : 16 < N) : f_X8_closedCount N σ 1 = some (ctk (fun k => g (13 + 2 * k) ≠ 0) (g 0).toNat) := by
  have h4 := G.st
  obtain ⟨z, hz⟩ := Int.eq_ofNat_of_zero_le h4.1
  have e := lp_up (f_X8_closedCount_4 σ 1) id (ctk (fun k => decide (g (13 + 2 * k) ≠ 0))) z (fun n => ?_) (fun n k hk => ?_) N 0 (by omega) (by omega)
  · unfold f_X8_closedCount
    rw [hz]
    exact (congrArg (fun q => Option.bind q _) e).trans rfl
  · rw [f_X8_closedCount_4, h.st, if_pos (by omega)]; rfl
  · have hr := ctk_rng (fun k => decide (g (13 + 2 * k) ≠ 0)) k
    rw [f_X8_closedCount_4, h.st, if_neg (by omega), if_pos (by omega), Int.toNat_natCast, h.cl k (by omega), ctk]
    by_cases q : g (13 + 2 * k) = 0
    · rw [if_pos q, if_neg (by simp [q]), Int.add_zero]; rfl
    · rw [if_neg q, if_pos (by unfold rng; omega), if_pos (by simp [q])]; rfl
theorem m_closed (G : GI K (μ 1)) (hN : 16 < N) : f_X13_closedShare_27 μ N 0 0 = some (ctk (fun k => μ 1 (13 + 2 * k) ≠ 0) (μ 1 0).toNat) := by
  have h4 := G.st
  obtain ⟨z, hz⟩ := Int.eq_ofNat_of_zero_le h4.1
  rw [hz]
  refine lp_up (f_X13_closedShare_27 μ) id (ctk (fun k => decide (μ 1 (13 + 2 * k) ≠ 0))) z (fun n => ?_) (fun n k hk => ?_) N 0 (by omega) (by omega)
  · rw [f_X13_closedShare_27, if_pos (by omega)]; rfl
  · have hr := ctk_rng (fun k => decide (μ 1 (13 + 2 * k) ≠ 0)) k
    rw [f_X13_closedShare_27, if_neg (by omega), m_isOpen (by omega), Option.bind_some, ctk]
    by_cases q : μ 1 (13 + 2 * k) = 0
    · rw [if_pos q, if_neg (by decide), bl_eq, if_pos (by unfold rng; omega), if_neg (by simp [q])]; rfl
    · rw [if_neg q, if_pos rfl, bl_eq, if_pos (by unfold rng; omega), if_pos (by simp [q])]; rfl
theorem m_prs (G : GI K (μ 1)) (hN : 16 < N) : f_X13_meanPrice_27 μ N 0 0 = some (prs (μ 1)) := by
  have h4 := G.tk
  obtain ⟨z, hz⟩ := Int.eq_ofNat_of_zero_le h4.1
  unfold prs
  rw [hz]
  refine lp_up (f_X13_meanPrice_27 μ) id (smk (fun k => gt (μ 1) k 5)) z (fun n => ?_) (fun n k hk => ?_) N 0 (by omega) (by omega)
  · rw [f_X13_meanPrice_27, if_pos (by omega)]; rfl
  · have hr := smk_rng (f := fun k => gt (μ 1) k 5) (B := 18) (n := k + 1) (fun j hj => by have := (G.ti j (by omega)).pr; omega)
    rw [smk] at hr
    rw [f_X13_meanPrice_27, if_neg (by omega), m_t5 (by omega), Option.bind_some, bl_eq, smk, if_pos (by unfold rng; omega)]; rfl
theorem smk_nn {f : Nat → Int} {n : Nat} (h : ∀ k, k < n → 0 ≤ f k) : 0 ≤ smk f n := by
  induction n with
  | zero => exact Int.le_refl _
  | succ n ih =>
    have h1 := ih (fun k hk => h k (by omega))
    have h2 := h n (by omega)
    unfold smk; omega
theorem op_meanPrice (I : INV K σ μ) (hN : 16 < N) : (f_X12_meanPrice N σ = some (σ, 6, 0) ∧ ∃ v, f_X13_meanPrice N μ = some (upm μ 11 0 1, v)) ∨ ∃ v, f_X12_meanPrice N σ = some (σ, 0, v) ∧ f_X13_meanPrice N μ = some (upm μ 11 0 0, v) := by
  have h3 := I.gi.tk
  have etk : σ 6 1 = μ 1 3 := I.nr.tk
  unfold f_X12_meanPrice f_X13_meanPrice
  rw [etk]
  by_cases q : μ 1 3 = 0
  · refine Or.inl ⟨by rw [if_pos q], FP.dconst0, ?_⟩
    rw [if_pos (by omega), ck0, Option.bind_some]; rfl
  · have hr := smk_rng (f := fun k => gt (μ 1) k 5) (B := 18) (n := (μ 1 3).toNat) (fun j hj => by have := (I.gi.ti j (by omega)).pr; omega)
    have hr2 := smk_nn (f := fun k => gt (μ 1) k 5) (n := (μ 1 3).toNat) (fun j hj => by have := (I.gi.ti j (by omega)).pr; omega)
    have hp : 0 ≤ prs (μ 1) ∧ prs (μ 1) < 320 := by unfold prs; omega
    refine Or.inr ⟨dqv (prs (μ 1)) (μ 1 3), ?_, ?_⟩
    · rw [if_neg q, show f_X11_priceSum N σ 6 = some (prs (μ 1)) from c_priceSum I.nr I.gi hN, Option.bind_some, if_pos (by omega)]
    · rw [if_neg (by omega), ck1, Option.bind_some]
      dsimp only
      rw [if_pos (by decide), m_prs (qG I.gi 0) hN, Option.bind_some]
      simp only [q1]
      rw [if_pos (by omega)]
theorem op_closedShare (I : INV K σ μ) (hN : 16 < N) : (f_X12_closedShare N σ = some (σ, 6, 0) ∧ ∃ v, f_X13_closedShare N μ = some (upm μ 11 0 1, v)) ∨ ∃ s c : Nat, s < 11 ∧ 0 < c ∧ c < 11 ∧ f_X12_closedShare N σ = some (σ, 0, fqv s c) ∧ f_X13_closedShare N μ = some (upm μ 11 0 0, fqv s c) := by
  have h3 := I.gi.st
  have est : σ 1 2 = μ 1 0 := I.nr.st
  unfold f_X12_closedShare f_X13_closedShare
  rw [est]
  by_cases q : μ 1 0 = 0
  · refine Or.inl ⟨by rw [if_pos q], FP.fconst0, ?_⟩
    rw [if_pos (by omega), ck0, Option.bind_some]; rfl
  · have hr := ctk_rng (fun k => decide (μ 1 (13 + 2 * k) ≠ 0)) (μ 1 0).toNat
    obtain ⟨c, hc⟩ := Int.eq_ofNat_of_zero_le h3.1
    obtain ⟨s, hs⟩ := Int.eq_ofNat_of_zero_le hr.1
    refine Or.inr ⟨s, c, by omega, by omega, by omega, ?_, ?_⟩
    · rw [if_neg q, c_closed I.nr I.gi hN, Option.bind_some, hs, hc, if_pos (by omega)]
    · rw [if_neg (by omega), ck1, Option.bind_some]
      dsimp only
      rw [if_pos (by decide), m_closed (qG I.gi 0) hN, Option.bind_some]
      simp only [q1, hs]
      rw [if_pos (by omega), hc]
end OQ
