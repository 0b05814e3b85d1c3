/-! agreement of class and model, part 73 -/
/-! the class's faults -/
def isSt (g : Ga) (x : Int) : Prop := 0 ≤ x ∧ x < g 0
def isLn (g : Ga) (x : Int) : Prop := 0 ≤ x ∧ x < g 2
def zSt (g : Ga) (x : Int) : Int := if 0 ≤ x ∧ x < g 0 then 0 else 1
def zLn (g : Ga) (x : Int) : Int := if 0 ≤ x ∧ x < g 2 then 0 else 1
def zSS (g : Ga) (x y : Int) : Int := if (0 ≤ x ∧ x < g 0) ∧ 0 ≤ y ∧ y < g 0 then 0 else 1
def zLS (g : Ga) (x y : Int) : Int := if (0 ≤ x ∧ x < g 2) ∧ 0 ≤ y ∧ y < g 0 then 0 else 1
def zAS (g : Ga) (x : Int) : Int := if 0 ≤ x ∧ x ≤ 9 then (if g 0 < 10 then 0 else 3) else 2
def wlki (g : Ga) (x y : Int) : Int := g (32 + 10 * x.toNat + y.toNat)
def zAW (g : Ga) (x y m : Int) : Int := if (0 ≤ x ∧ x < g 0) ∧ 0 ≤ y ∧ y < g 0 then (if x ≠ y ∧ 1 ≤ m ∧ m ≤ 30 then (if wlki g x y = 0 ∧ g 1 < 15 then 0 else 3) else 2) else 1
def zWd (g : Ga) (x y : Int) : Int := if (0 ≤ x ∧ x < g 0) ∧ 0 ≤ y ∧ y < g 0 then (if 0 < wlki g x y then 0 else 4) else 1
def zAL (g : Ga) (h o p s : Int) : Int := if (1 ≤ h ∧ h ≤ 60) ∧ (0 ≤ o ∧ o ≤ 59) ∧ (1 ≤ p ∧ p ≤ 9) ∧ 1 ≤ s ∧ s ≤ 20 then (if g 2 < 5 then 0 else 3) else 2
def zEx (g : Ga) (c s : Int) : Int := if (0 ≤ c ∧ c < g 2) ∧ 0 ≤ s ∧ s < g 0 then (if gl g c.toNat 5 < 6 ∧ tof g c = 0 then (if pla g c.toNat s = -1 then 0 else 5) else 3) else 1
def zSh (g : Ga) (c : Int) : Int := if 0 ≤ c ∧ c < g 2 then (if gl g c.toNat 5 = 0 then 4 else if tof g c = 0 then 0 else 3) else 1
def zDl (g : Ga) (c m : Int) : Int := if 0 ≤ c ∧ c < g 2 then (if 0 ≤ m ∧ m ≤ 5 then 0 else 2) else 1
def zRd (g : Ga) (c t a e : Int) : Int := if 0 ≤ c ∧ c < g 2 then (if (0 ≤ a ∧ a < e ∧ e ≤ gl g c.toNat 5) ∧ 0 ≤ t ∧ t ≤ 99 then 0 else 2) else 1
def zSa (g : Ga) (c t a e : Int) : Int := if zRd g c t a e = 0 then (if run g c.toNat ∧ g 3 < 16 then (if 0 < fre g c.toNat t a e then 0 else 5) else 3) else zRd g c t a e
def zWt (m : Int) : Int := if 1 ≤ m ∧ m ≤ 120 then 0 else 2
def zTr (g : Ga) (c t p : Int) : Int := if 0 ≤ c ∧ c < g 2 then (if (0 ≤ t ∧ t ≤ 99) ∧ 0 ≤ p ∧ p ≤ gl g c.toNat 5 then (if 2 ≤ gl g c.toNat 5 then 0 else 3) else 2) else 1
def zNx (g : Ga) (c p m : Int) : Int := if 0 ≤ c ∧ c < g 2 then (if (0 ≤ p ∧ p < gl g c.toNat 5) ∧ 0 ≤ m ∧ m ≤ 9999 then (if run g c.toNat then 0 else 3) else 2) else 1
def zJy (g : Ga) (x y m : Int) : Int := if (0 ≤ x ∧ x < g 0) ∧ 0 ≤ y ∧ y < g 0 then (if 0 ≤ m ∧ m ≤ 9999 then 0 else 2) else 1
def zFl (g : Ga) (x y : Int) : Int := if (0 ≤ x ∧ x < g 0) ∧ 0 ≤ y ∧ y < g 0 then (if x = y then 2 else 0) else 1
theorem isSt_cases {g : Ga} {K : Int} (G : GI K g) {x : Int} (h : 0 ≤ x ∧ x < g 0) : ∃ k : Nat, x = (k : Int) ∧ k < 10 ∧ (k : Int) < g 0 := by
  obtain ⟨k, rfl⟩ := Int.eq_ofNat_of_zero_le h.1
  have := G.st
  exact ⟨k, rfl, by omega, h.2⟩
theorem isLn_cases {g : Ga} {K : Int} (G : GI K g) {x : Int} (h : 0 ≤ x ∧ x < g 2) : ∃ k : Nat, x = (k : Int) ∧ k < 5 ∧ (k : Int) < g 2 := by
  obtain ⟨k, rfl⟩ := Int.eq_ofNat_of_zero_le h.1
  have := G.ln
  exact ⟨k, rfl, by omega, h.2⟩
section CF
variable {b : Nat} {σ : Sm} {g : Ga} {K : Int} {N : Nat}
theorem c_hs1 (h : NR b σ g) {x : Int} (q : 0 ≤ x ∧ x < g 0) : f_X8_hasStop σ b x = some 1 := by rw [c_hasStop h, if_pos q]
theorem c_hs0 (h : NR b σ g) {x : Int} (q : ¬ (0 ≤ x ∧ x < g 0)) : f_X8_hasStop σ b x = some 0 := by rw [c_hasStop h, if_neg q]
theorem c_hl1 (h : NR b σ g) {x : Int} (q : 0 ≤ x ∧ x < g 2) : f_X8_hasLine σ b x = some 1 := by rw [c_hasLine h, if_pos q]
theorem c_hl0 (h : NR b σ g) {x : Int} (q : ¬ (0 ≤ x ∧ x < g 2)) : f_X8_hasLine σ b x = some 0 := by rw [c_hasLine h, if_neg q]
theorem c_stopIx (h : NR b σ g) (x : Int) : f_X8_stopIndexFault σ b x = some (zSt g x) := by
  unfold f_X8_stopIndexFault zSt
  by_cases q : 0 ≤ x ∧ x < g 0
  · rw [c_hs1 h q, if_pos q]; rfl
  · rw [c_hs0 h q, if_neg q]; rfl
theorem c_lineIx (h : NR b σ g) (x : Int) : f_X8_lineIndexFault σ b x = some (zLn g x) := by
  unfold f_X8_lineIndexFault zLn
  by_cases q : 0 ≤ x ∧ x < g 2
  · rw [c_hl1 h q, if_pos q]; rfl
  · rw [c_hl0 h q, if_neg q]; rfl
theorem c_pairF (h : NR b σ g) (x y : Int) : f_X8_stopPairFault σ b x y = some (zSS g x y) := by
  unfold f_X8_stopPairFault zSS
  by_cases q : 0 ≤ x ∧ x < g 0
  · by_cases q2 : 0 ≤ y ∧ y < g 0
    · rw [c_hs1 h q, c_hs1 h q2, if_pos (show (0 ≤ x ∧ x < g 0) ∧ 0 ≤ y ∧ y < g 0 from ⟨q, q2⟩)]; rfl
    · rw [c_hs1 h q, c_hs0 h q2, if_neg (show ¬ ((0 ≤ x ∧ x < g 0) ∧ 0 ≤ y ∧ y < g 0) from fun z => q2 z.2)]; rfl
  · rw [c_hs0 h q, if_neg (show ¬ ((0 ≤ x ∧ x < g 0) ∧ 0 ≤ y ∧ y < g 0) from fun z => q z.1)]; rfl
theorem c_lsF (h : NR b σ g) (x y : Int) : f_X8_lineAndStopFault σ b x y = some (zLS g x y) := by
  unfold f_X8_lineAndStopFault zLS
  by_cases q : 0 ≤ x ∧ x < g 2
  · by_cases q2 : 0 ≤ y ∧ y < g 0
    · rw [c_hl1 h q, c_hs1 h q2, if_pos (show (0 ≤ x ∧ x < g 2) ∧ 0 ≤ y ∧ y < g 0 from ⟨q, q2⟩)]; rfl
    · rw [c_hl1 h q, c_hs0 h q2, if_neg (show ¬ ((0 ≤ x ∧ x < g 2) ∧ 0 ≤ y ∧ y < g 0) from fun z => q2 z.2)]; rfl
  · rw [c_hl0 h q, if_neg (show ¬ ((0 ≤ x ∧ x < g 2) ∧ 0 ≤ y ∧ y < g 0) from fun z => q z.1)]; rfl
theorem c_stopF (h : NR b σ g) (x : Int) : f_X8_stopFault σ b x = some (zAS g x) := by
  unfold f_X8_stopFault zAS
  rw [h.st]
  repeat' split
  all_goals first | rfl | (exfalso; omega)
theorem c_walkB (h : NR b σ g) (G : GI K g) {x y : Int} (q : 0 ≤ x ∧ x < g 0) (q2 : 0 ≤ y ∧ y < g 0) : f_X8_walkBetween σ b x y = some (wlki g x y) := by
  obtain ⟨k, rfl, hk, -⟩ := isSt_cases G q
  obtain ⟨j, rfl, hj, -⟩ := isSt_cases G q2
  unfold f_X8_walkBetween wlki
  rw [if_pos (by omega), show ((k : Int) * 10 + j).toNat = 10 * k + j by omega, h.wl k j hk hj]
  simp
theorem wlki_rng (G : GI K g) {x y : Int} (q : 0 ≤ x ∧ x < g 0) (q2 : 0 ≤ y ∧ y < g 0) : 0 ≤ wlki g x y ∧ wlki g x y ≤ 30 := by
  obtain ⟨k, rfl, hk, -⟩ := isSt_cases G q
  obtain ⟨j, rfl, hj, -⟩ := isSt_cases G q2
  have := G.wl k j hk hj
  unfold wlki
  simpa using this
theorem c_walkF (h : NR b σ g) (G : GI K g) (x y m : Int) : f_X8_walkFault σ b x y m = some (zAW g x y m) := by
  unfold f_X8_walkFault zAW
  rw [h.wk]
  by_cases q : 0 ≤ x ∧ x < g 0
  · by_cases q2 : 0 ≤ y ∧ y < g 0
    · rw [c_hs1 h q, c_hs1 h q2, if_pos (show (0 ≤ x ∧ x < g 0) ∧ 0 ≤ y ∧ y < g 0 from ⟨q, q2⟩), c_walkB h G q q2]
      simp only [Option.bind_some]
      rw [if_neg (by decide), if_neg (by decide)]
      repeat' split
      all_goals first | rfl | (exfalso; omega)
    · rw [c_hs1 h q, c_hs0 h q2, if_neg (show ¬ ((0 ≤ x ∧ x < g 0) ∧ 0 ≤ y ∧ y < g 0) from fun z => q2 z.2)]; rfl
  · rw [c_hs0 h q, if_neg (show ¬ ((0 ≤ x ∧ x < g 0) ∧ 0 ≤ y ∧ y < g 0) from fun z => q z.1)]; rfl
theorem c_walkedF (h : NR b σ g) (G : GI K g) (x y : Int) : f_X8_walkedFault σ b x y = some (zWd g x y) := by
  unfold f_X8_walkedFault zWd
  by_cases q : 0 ≤ x ∧ x < g 0
  · by_cases q2 : 0 ≤ y ∧ y < g 0
    · rw [c_hs1 h q, c_hs1 h q2, if_pos (show (0 ≤ x ∧ x < g 0) ∧ 0 ≤ y ∧ y < g 0 from ⟨q, q2⟩), c_walkB h G q q2]
      simp only [Option.bind_some]
      rw [if_neg (by decide), if_neg (by decide)]
      repeat' split
      all_goals first | rfl | (exfalso; omega)
    · rw [c_hs1 h q, c_hs0 h q2, if_neg (show ¬ ((0 ≤ x ∧ x < g 0) ∧ 0 ≤ y ∧ y < g 0) from fun z => q2 z.2)]; rfl
  · rw [c_hs0 h q, if_neg (show ¬ ((0 ≤ x ∧ x < g 0) ∧ 0 ≤ y ∧ y < g 0) from fun z => q z.1)]; rfl
theorem c_lineF (h : NR b σ g) (x1 x2 x3 x4 : Int) : f_X8_lineFault σ b x1 x2 x3 x4 = some (zAL g x1 x2 x3 x4) := by
  unfold f_X8_lineFault zAL
  rw [h.ln]
  repeat' split
  all_goals first | rfl | (exfalso; omega)
theorem c_extF (h : NR b σ g) (G : GI K g) (x y : Int) (hN : 16 < N) : f_X8_extensionFault N σ b x y = some (zEx g x y) := by
  unfold f_X8_extensionFault zEx
  by_cases q : 0 ≤ x ∧ x < g 2
  · by_cases q2 : 0 ≤ y ∧ y < g 0
    · rw [c_hl1 h q, c_hs1 h q2, if_pos (show (0 ≤ x ∧ x < g 2) ∧ 0 ≤ y ∧ y < g 0 from ⟨q, q2⟩)]
      obtain ⟨c, rfl, hc5, hc⟩ := isLn_cases G q
      have h5 := tof_rng G c
      simp only [Option.bind_some]
      rw [Int.toNat_natCast]
      rw [if_neg (show ¬ (1 : Int) = 0 by decide), if_neg (show ¬ (1 : Int) = 0 by decide), if_pos (show (0 : Int) ≤ c ∧ (c : Int) < 5 by omega), (h.li c hc).2.2.2.2.2.2, c_countOfLine h G _ hN, Option.bind_some, c_placeOf h G hc _ (by omega), Option.bind_some]
      repeat' split
      all_goals first | rfl | (exfalso; omega)
    · rw [c_hl1 h q, c_hs0 h q2, if_neg (show ¬ ((0 ≤ x ∧ x < g 2) ∧ 0 ≤ y ∧ y < g 0) from fun z => q2 z.2)]; rfl
  · rw [c_hl0 h q, if_neg (show ¬ ((0 ≤ x ∧ x < g 2) ∧ 0 ≤ y ∧ y < g 0) from fun z => q z.1)]; rfl
theorem c_shF (h : NR b σ g) (G : GI K g) (x : Int) (hN : 16 < N) : f_X8_shorteningFault N σ b x = some (zSh g x) := by
  unfold f_X8_shorteningFault zSh
  by_cases q : 0 ≤ x ∧ x < g 2
  · rw [c_hl1 h q, if_pos q]
    obtain ⟨c, rfl, hc5, hc⟩ := isLn_cases G q
    simp only [Option.bind_some]
    rw [Int.toNat_natCast]
    rw [if_neg (by decide), if_pos (by omega), (h.li c hc).2.2.2.2.2.2, c_countOfLine h G _ hN, Option.bind_some]
    repeat' split
    all_goals first | rfl | (exfalso; omega)
  · rw [c_hl0 h q, if_neg q]; rfl
theorem c_dlF (h : NR b σ g) (x m : Int) : f_X8_delayFault σ b x m = some (zDl g x m) := by
  unfold f_X8_delayFault zDl
  by_cases q : 0 ≤ x ∧ x < g 2
  · rw [c_hl1 h q, if_pos q, Option.bind_some, if_neg (by decide)]
    repeat' split
    all_goals first | rfl | (exfalso; omega)
  · rw [c_hl0 h q, if_neg q]; rfl
theorem c_rdF (h : NR b σ g) (G : GI K g) (x t a e : Int) : f_X8_rideFault σ b x t a e = some (zRd g x t a e) := by
  unfold f_X8_rideFault zRd
  by_cases q : 0 ≤ x ∧ x < g 2
  · rw [c_hl1 h q, if_pos q, Option.bind_some, if_neg (by decide)]
    obtain ⟨c, rfl, hc5, hc⟩ := isLn_cases G q
    rw [Int.toNat_natCast]
    rw [if_pos (show (0 : Int) ≤ c ∧ (c : Int) < 5 by omega), (h.li c hc).2.2.2.2.2.2]
    repeat' split
    all_goals first | rfl | (exfalso; omega)
  · rw [c_hl0 h q, if_neg q]; rfl
theorem zRd_0 {x t a e : Int} (h : zRd g x t a e = 0) : (0 ≤ x ∧ x < g 2) ∧ (0 ≤ a ∧ a < e ∧ e ≤ gl g x.toNat 5) ∧ 0 ≤ t ∧ t ≤ 99 := by
  unfold zRd at h
  repeat' split at h
  · rename_i h1 h2; exact ⟨h1, h2.1, h2.2⟩
  · cases h
  · cases h
theorem c_saF (h : NR b σ g) (G : GI K g) (x t a e : Int) (hN : 16 < N) : f_X8_saleFault N σ b x t a e = some (zSa g x t a e) := by
  unfold f_X8_saleFault zSa
  rw [c_rdF h G, Option.bind_some]
  by_cases q : zRd g x t a e = 0
  · rw [if_pos q, if_pos q]
    obtain ⟨h1, h2, h3⟩ := zRd_0 q
    obtain ⟨c, rfl, hc5, hc⟩ := isLn_cases G h1
    rw [Int.toNat_natCast] at h2 ⊢
    have h4 := (G.li c hc5).sz
    rw [if_pos (show (0 : Int) ≤ c ∧ (c : Int) < 5 by omega), c_isRunning h hc, Option.bind_some, h.tk, c_seatsLeft h G hc t a e (by omega) hN, Option.bind_some]
    by_cases r : run g c = true
    · simp only [r, if_true, true_and]
      rw [if_neg (by decide)]
      repeat' split
      all_goals first | rfl | (exfalso; omega)
    · simp [r]
  · rw [if_neg q, if_neg q]
theorem c_wtF (m : Int) : f_X8_waitFault b m = some (zWt m) := by
  unfold f_X8_waitFault zWt
  repeat' split
  all_goals first | rfl | (exfalso; omega)
theorem c_trF (h : NR b σ g) (G : GI K g) (x t p : Int) : f_X8_tripFault σ b x t p = some (zTr g x t p) := by
  unfold f_X8_tripFault zTr
  by_cases q : 0 ≤ x ∧ x < g 2
  · rw [c_hl1 h q, if_pos q, Option.bind_some, if_neg (by decide)]
    obtain ⟨c, rfl, hc5, hc⟩ := isLn_cases G q
    rw [Int.toNat_natCast]
    rw [if_pos (show (0 : Int) ≤ c ∧ (c : Int) < 5 by omega), (h.li c hc).2.2.2.2.2.2, c_hasPosition h hc, Option.bind_some]
    repeat' split
    all_goals first | rfl | (exfalso; omega)
  · rw [c_hl0 h q, if_neg q]; rfl
theorem c_nxF (h : NR b σ g) (G : GI K g) (x p m : Int) : f_X8_nextTripFault σ b x p m = some (zNx g x p m) := by
  unfold f_X8_nextTripFault zNx
  by_cases q : 0 ≤ x ∧ x < g 2
  · rw [c_hl1 h q, if_pos q, Option.bind_some, if_neg (by decide)]
    obtain ⟨c, rfl, hc5, hc⟩ := isLn_cases G q
    rw [Int.toNat_natCast]
    rw [if_pos (show (0 : Int) ≤ c ∧ (c : Int) < 5 by omega), (h.li c hc).2.2.2.2.2.2, c_isRunning h hc, Option.bind_some]
    repeat' split
    all_goals first | rfl | (exfalso; omega)
  · rw [c_hl0 h q, if_neg q]; rfl
theorem c_jyF (h : NR b σ g) (x y m : Int) : f_X8_journeyFault σ b x y m = some (zJy g x y m) := by
  unfold f_X8_journeyFault zJy
  by_cases q : 0 ≤ x ∧ x < g 0
  · by_cases q2 : 0 ≤ y ∧ y < g 0
    · rw [c_hs1 h q, c_hs1 h q2, if_pos (show (0 ≤ x ∧ x < g 0) ∧ 0 ≤ y ∧ y < g 0 from ⟨q, q2⟩), Option.bind_some, if_neg (by decide), Option.bind_some, if_neg (by decide)]
      repeat' split
      all_goals first | rfl | (exfalso; omega)
    · rw [c_hs1 h q, c_hs0 h q2, if_neg (show ¬ ((0 ≤ x ∧ x < g 0) ∧ 0 ≤ y ∧ y < g 0) from fun z => q2 z.2)]; rfl
  · rw [c_hs0 h q, if_neg (show ¬ ((0 ≤ x ∧ x < g 0) ∧ 0 ≤ y ∧ y < g 0) from fun z => q z.1)]; rfl
theorem c_flF (h : NR b σ g) (x y : Int) : f_X8_flowFault σ b x y = some (zFl g x y) := by
  unfold f_X8_flowFault zFl
  by_cases q : 0 ≤ x ∧ x < g 0
  · by_cases q2 : 0 ≤ y ∧ y < g 0
    · rw [c_hs1 h q, c_hs1 h q2, if_pos (show (0 ≤ x ∧ x < g 0) ∧ 0 ≤ y ∧ y < g 0 from ⟨q, q2⟩), Option.bind_some, if_neg (by decide), Option.bind_some, if_neg (by decide)]
      repeat' split
      all_goals first | rfl | (exfalso; omega)
    · rw [c_hs1 h q, c_hs0 h q2, if_neg (show ¬ ((0 ≤ x ∧ x < g 0) ∧ 0 ≤ y ∧ y < g 0) from fun z => q2 z.2)]; rfl
  · rw [c_hs0 h q, if_neg (show ¬ ((0 ≤ x ∧ x < g 0) ∧ 0 ≤ y ∧ y < g 0) from fun z => q z.1)]; rfl
end CF
