/-! agreement of class and model, part 9K -/
/-! flows: the greatest and the least cut -/
def pmn (R cf : Ga) (f : Nat) : Nat → Nat → Int
  | 0, _ => 1000000000
  | k + 1, u => if u = f then 1000000000 else min (R (10 * (cf u).toNat + u)) (pmn R cf f k (cf u).toNat)
section FA
variable {σ s μ : Sm} {g R cf qu : Ga} {K n T : Int} {N f t c : Nat} {d : Nat → Nat} {H : HF}
theorem BQ.pre (q : BQ g R f cf qu n d) {u : Nat} (hu : (u : Int) < g 0) (hc : cf u ≠ -1) (hne : u ≠ f) : ∃ p : Nat, cf u = (p : Int) ∧ (p : Int) < g 0 ∧ cf p ≠ -1 ∧ d p < d u ∧ 0 < R (10 * p + u) ∧ p ≠ u := by
  rcases q.cr u hu with h | ⟨p, p1, p2, p3, h | ⟨h1, h2⟩⟩
  · exact absurd h hc
  · exact absurd h hne
  · exact ⟨p, p1, p2, p3, h1, h2, fun e => by subst e; omega⟩
theorem pmn_pos (q : BQ g R f cf qu n d) : ∀ (k u : Nat), (u : Int) < g 0 → cf u ≠ -1 → 1 ≤ pmn R cf f k u ∧ pmn R cf f k u ≤ 1000000000 := by
  intro k
  induction k with
  | zero => intro u _ _; unfold pmn; omega
  | succ k ih =>
    intro u hu hc
    unfold pmn
    by_cases e : u = f
    · rw [if_pos e]; omega
    · rw [if_neg e]
      obtain ⟨p, p1, p2, p3, p4, p5, p6⟩ := q.pre hu hc e
      rw [p1, Int.toNat_natCast]
      have := ih p p2 p3
      omega
theorem c_add9 (hs : 0 ≤ g 0 ∧ g 0 ≤ 10) (q : BQ g (s 380) f (s 381) qu n d) (x2 : Int) : ∀ (k u n' : Nat) (x3 : Int), k ≤ 10 → k < n' → d u < k → (u : Int) < g 0 → s 381 u ≠ -1 → x3 ≤ 1000000000 → f_X5_addTravellers_9 s 379 f x2 n' x3 u ((10 - k : Nat) : Int) = some (min x3 (pmn (s 380) (s 381) f k u)) := by
  intro k
  induction k with
  | zero => intro u n' x3 _ _ h; omega
  | succ k ih =>
    intro u n' x3 hk hn hd hu hc hx
    obtain ⟨m, rfl⟩ : ∃ m, n' = m + 1 := ⟨n' - 1, by omega⟩
    rw [f_X5_addTravellers_9, if_neg (by omega)]
    unfold pmn
    by_cases e : u = f
    · rw [if_pos (by omega), if_pos e]
      rw [show min x3 1000000000 = x3 by omega]
    · rw [if_neg (by omega), if_neg e, if_pos (by omega), Int.toNat_natCast]
      obtain ⟨p, p1, p2, p3, p4, p5, p6⟩ := q.pre hu hc e
      have p1' : s (379 + 2) u = (p : Int) := p1
      rw [p1', if_pos (by omega), Int.toNat_natCast, show ((p : Int) * 10 + u).toNat = 10 * p + u by omega]
      have mn : ∀ u v : Int, f_J9_min_7cf53 u v = some (min u v) := fun u v => by
        unfold f_J9_min_7cf53
        split
        · rw [show min u v = v by omega]
        · rw [show min u v = u by omega]
      have h := (ih p m (min x3 (s 380 (10 * p + u))) (by omega) (by omega) (by omega) p2 p3 (by omega))
      rw [mn, Option.bind_some, bl_eq, show ((10 - (k + 1) : Nat) : Int) + 1 = ((10 - k : Nat) : Int) by omega]
      show f_X5_addTravellers_9 s 379 f x2 m (min x3 (s 380 (10 * p + u))) p _ = _
      rw [h]
      congr 1
      omega
theorem c_add66 (hs : 0 ≤ g 0 ∧ g 0 ≤ 10) (q : BQ g R f cf qu n d) {fit : Int} (hf : 1 ≤ fit) (hf2 : fit ≤ 1200) : ∀ (k u n' : Nat) (s : Sm), k ≤ 10 → k < n' → d u < k → (u : Int) < g 0 → cf u ≠ -1 → s 381 = cf → fit ≤ pmn R cf f k u → (∀ a b : Nat, (a : Int) < g 0 → (b : Int) < g 0 → cf b ≠ -1 → d b ≤ d u → R (10 * a + b) ≤ s 380 (10 * a + b)) → (∀ a b : Nat, (a : Int) < g 0 → (b : Int) < g 0 → 0 ≤ s 380 (10 * a + b)) → (∀ a b : Nat, (a : Int) < g 0 → (b : Int) < g 0 → s 380 (10 * a + b) + s 380 (10 * b + a) ≤ 1200) → (∀ X : Nat → Bool, outc g X (s 380) = outc g X R + (if X t = true then fit else 0) - (if X u = true then fit else 0)) → ∃ s', f_X5_addTravellers_66 379 f fit n' s u ((10 - k : Nat) : Int) = some s' ∧ (∀ r, r ≠ 380 → s' r = s r) ∧ (∀ a b : Nat, (a : Int) < g 0 → (b : Int) < g 0 → 0 ≤ s' 380 (10 * a + b)) ∧ (∀ a b : Nat, (a : Int) < g 0 → (b : Int) < g 0 → s' 380 (10 * a + b) + s' 380 (10 * b + a) ≤ 1200) ∧ ∀ X : Nat → Bool, outc g X (s' 380) = outc g X R + (if X t = true then fit else 0) - (if X f = true then fit else 0) := by
  intro k
  induction k with
  | zero => intro u n' s _ _ h; omega
  | succ k ih =>
    intro u n' s hk hn hd hu hc e381 hfit i1 i2 i3 i4
    obtain ⟨m, rfl⟩ : ∃ m, n' = m + 1 := ⟨n' - 1, by omega⟩
    rw [f_X5_addTravellers_66, if_neg (by omega)]
    by_cases e : u = f
    · subst e
      rw [if_pos rfl]
      exact ⟨s, rfl, fun _ _ => rfl, i2, i3, i4⟩
    · obtain ⟨p, p1, p2, p3, p4, p5, p6⟩ := q.pre hu hc e
      have p1' : s (379 + 2) u = (p : Int) := by show s 381 u = _; rw [e381]; exact p1
      unfold pmn at hfit
      rw [if_neg e, p1, Int.toNat_natCast] at hfit
      have r0 := i1 p u p2 hu hc (Nat.le_refl _)
      have r1 := i3 p u p2 hu
      have r2 := i2 u p hu p2
      have ne : 10 * u + p ≠ 10 * p + u := by omega
      have v42 : ∀ w, upm s 380 (10 * p + u) w 380 (10 * u + p) = s 380 (10 * u + p) := fun w => by rw [upm_cell ne]
      rw [if_neg (by omega), if_pos (by omega), Int.toNat_natCast, bl_eq, p1', if_pos (by omega), show ((p : Int) * 10 + u).toNat = 10 * p + u by omega]
      show ∃ s', (if rng (s 380 (10 * p + u) - fit) then _ else _) = some s' ∧ _
      rw [if_pos (by unfold rng; omega), bl_eq, if_pos (by omega), show ((u : Int) * 10 + p).toNat = 10 * u + p by omega]
      show ∃ s', (if rng (upm s 380 (10 * p + u) (s 380 (10 * p + u) - fit) 380 (10 * u + p) + fit) then _ else _) = some s' ∧ _
      rw [v42, if_pos (by unfold rng; omega), bl_eq]
      obtain ⟨Y, hY⟩ : ∃ Y, Y = upm (upm s 380 (10 * p + u) (s 380 (10 * p + u) - fit)) 380 (10 * u + p) (s 380 (10 * u + p) + fit) := ⟨_, rfl⟩
      have y1 : Y 380 (10 * p + u) = s 380 (10 * p + u) - fit := by subst hY; rw [upm_cell (fun h => ne h.symm), upm_same]
      have y2 : Y 380 (10 * u + p) = s 380 (10 * u + p) + fit := by subst hY; rw [upm_same]
      have y3 : ∀ i, i ≠ 10 * p + u → i ≠ 10 * u + p → Y 380 i = s 380 i := fun i h1 h2 => by subst hY; rw [upm_cell h2, upm_cell h1]
      have yr : ∀ r, r ≠ 380 → Y r = s r := fun r h => by subst hY; rw [upm_role h, upm_role h]
      have yc : ∀ X : Nat → Bool, outc g X (Y 380) = outc g X R + (if X t = true then fit else 0) - (if X p = true then fit else 0) := fun X => by
        have a1 := outc_up hs.2 X (s 380) p2 hu (s 380 (10 * p + u) - fit)
        have a2 := outc_up hs.2 X (upf (s 380) (10 * p + u) (s 380 (10 * p + u) - fit)) hu p2 (s 380 (10 * u + p) + fit)
        have a3 : Y 380 = upf (upf (s 380) (10 * p + u) (s 380 (10 * p + u) - fit)) (10 * u + p) (s 380 (10 * u + p) + fit) := by subst hY; rw [upm_upf, upm_upf]
        have a4 := i4 X
        rw [upf_ne ne] at a2
        rw [a3, a2, a1, a4]
        cases X p <;> cases X u <;> simp <;> omega
      show ∃ s', f_X5_addTravellers_66 379 f fit m (upm (upm s 380 (10 * p + u) (s 380 (10 * p + u) - fit)) 380 (10 * u + p) (s 380 (10 * u + p) + fit)) p (((10 - (k + 1) : Nat) : Int) + 1) = some s' ∧ _
      rw [← hY, show ((10 - (k + 1) : Nat) : Int) + 1 = ((10 - k : Nat) : Int) by omega]
      obtain ⟨s', w1, w2, w3, w4, w5⟩ := ih p m Y (by omega) (by omega) (by omega) p2 p3 (by rw [yr 381 (by decide)]; exact e381) (by omega) (fun a b ha hb hcb hdb => by
        have h1 := i1 a b ha hb hcb (by omega)
        have hbu : b ≠ u := fun e => by subst e; omega
        by_cases h2 : 10 * a + b = 10 * u + p
        · rw [h2] at h1 ⊢
          rw [y2]; omega
        · rw [y3 _ (by omega) h2]; exact h1) (fun a b ha hb => by
        by_cases h1 : 10 * a + b = 10 * p + u
        · rw [h1, y1]; omega
        · by_cases h2 : 10 * a + b = 10 * u + p
          · rw [h2, y2]; omega
          · rw [y3 _ h1 h2]; exact i2 a b ha hb) (fun a b ha hb => by
        have h3 := i3 a b ha hb
        have h4 := i3 p u p2 hu
        by_cases h1 : 10 * a + b = 10 * p + u
        · have ea : a = p := by omega
          have eb : b = u := by omega
          subst ea; subst eb
          rw [y1, y2]; omega
        · by_cases h2 : 10 * a + b = 10 * u + p
          · have ea : a = u := by omega
            have eb : b = p := by omega
            subst ea; subst eb
            rw [y1, y2]; omega
          · rw [y3 _ h1 h2, y3 _ (by omega) (by omega)]; exact h3) yc
      exact ⟨s', w1, fun r h => (w2 r h).trans (yr r h), w3, w4, w5⟩
/-- one way more -/
theorem c_addT (hs : 0 ≤ g 0 ∧ g 0 ≤ 10) (hN : 40 < N) (ht : (t : Int) < g 0) (r : RM g f t (s 380) T) (q : BQ g (s 380) f (s 381) qu n d) (hc : s 381 t ≠ -1) (hft : f ≠ t) : ∃ s' fit, f_X5_addTravellers N s 379 f t = some (s', fit) ∧ 1 ≤ fit ∧ (∀ r, r ≠ 380 → s' r = s r) ∧ RM g f t (s' 380) (T + fit) := by
  have nb := q.nb hs
  have dt := q.dn t ht hc
  have a := c_add9 hs q (t : Int) 10 t N 1000000000 (by omega) (by omega) (by omega) ht hc (by omega)
  have b := pmn_pos q 10 t ht hc
  obtain ⟨fit, hfit⟩ : ∃ fit, fit = pmn (s 380) (s 381) f 10 t := ⟨_, rfl⟩
  have f12 : fit ≤ 1200 := by
    obtain ⟨p, p1, p2, p3, p4, p5, p6⟩ := q.pre ht hc (fun e => hft e.symm)
    have h1 := r.ub p t p2 ht
    have h2 := r.nn t p ht p2
    rw [hfit]
    unfold pmn
    rw [if_neg (fun e => hft e.symm), p1, Int.toNat_natCast]
    omega
  rw [← hfit] at b
  rw [show min 1000000000 (pmn (s 380) (s 381) f 10 t) = fit by omega] at a
  obtain ⟨s', w1, w2, w3, w4, w5⟩ := c_add66 (t := t) hs q (fit := fit) (by omega) f12 10 t N s (by omega) (by omega) (by omega) ht hc rfl (by omega) (fun a b _ _ _ _ => Int.le_refl _) r.nn r.ub (fun X => by omega)
  refine ⟨s', fit, ?_, by omega, w2, RM.mk w3 w4 (fun X h1 h2 => ?_)⟩
  · unfold f_X5_addTravellers
    rw [show f_X5_addTravellers_9 s 379 f t N 1000000000 t 0 = _ from a, Option.bind_some, show f_X5_addTravellers_66 379 f fit N s t 0 = _ from w1, Option.bind_some]
  · rw [w5 X, r.ct X h1 h2, h1, h2]; simp; omega
theorem cutX_b (G : GI K g) (X : Nat → Bool) : 0 ≤ cutX g X ∧ cutX g X ≤ 600 := by
  have hl := G.ln
  have := hsm_b G (F := fun a b w => if X a = true then (if X b = true then 0 else w) else 0) (fun a b w h1 h2 => by
    show 0 ≤ (if X a = true then (if X b = true then 0 else w) else 0) ∧ (if X a = true then (if X b = true then 0 else w) else 0) ≤ 20
    repeat' split
    all_goals omega) (k := (g 2).toNat) (by omega)
  unfold cutX
  omega
theorem outc_nn (r : ∀ a b : Nat, (a : Int) < g 0 → (b : Int) < g 0 → 0 ≤ R (10 * a + b)) (X : Nat → Bool) : 0 ≤ outc g X R := by
  refine smk_nn (fun k hk => ?_)
  unfold ocl
  split
  · rename_i h
    have := r (k / 10) (k % 10) h.1.1 h.1.2
    rw [show 10 * (k / 10) + k % 10 = k by omega] at this
    exact this
  · omega
theorem c_g70 (G : GI K g) (hN : 40 < N) (hf : (f : Int) < g 0) (ht : (t : Int) < g 0) (hft : f ≠ t) (R9 : RW 1 σ) (nr9 : NR 1 σ g) : ∀ (n' w : Nat) (s : Sm) (T : Int), w ≤ 1000 → 1000 - w < n' → FL σ s → RM g f t (s 380) T → (w : Int) ≤ T → ∃ s' T' , f_X5_greatest_70 N 379 1 f t n' s T w = some (s', T') ∧ FL σ s' ∧ (∀ X : Nat → Bool, X f = true → X t = false → T' ≤ cutX g X) ∧ ∃ X : Nat → Bool, X f = true ∧ X t = false ∧ cutX g X = T' := by
  have hs := G.st
  intro n'
  induction n' with
  | zero => intro w s T _ h; omega
  | succ n' ih =>
    intro w s T hw hn fl r hwT
    have lb : ∀ X : Nat → Bool, X f = true → X t = false → T ≤ cutX g X := fun X h1 h2 => by
      have := r.ct X h1 h2
      have := outc_nn r.nn X
      omega
    have t600 : T ≤ 600 := by
      have h1 := lb (fun i => decide (i = f)) (by simp) (by simp; exact fun e => hft e.symm)
      have h2 := cutX_b G (fun i => decide (i = f))
      omega
    have nn := fl.nr nr9 G R9
    rw [f_X5_greatest_70, if_neg (by omega), nn.st]
    obtain ⟨s1, a1, a2, ⟨m, d, a3⟩, a4⟩ := c_findWay (N := N) G hN hf ht s
    rw [a1, Option.bind_some]
    dsimp only
    have s380 : s1 380 = s 380 := a2 380 (by decide) (by decide)
    have fl1 : FL σ s1 := fun q hq => (a2 q (by omega) (by omega)).trans (fl q hq)
    by_cases e : s1 381 t = -1
    · rw [if_pos e, if_pos rfl]
      have x1 : (fun i => decide (s1 381 i ≠ -1)) f = true := by simpa using a3.c0
      have x2 : (fun i => decide (s1 381 i ≠ -1)) t = false := by simpa using e
      refine ⟨s1, T, rfl, fl1, lb, fun i => decide (s1 381 i ≠ -1), x1, x2, ?_⟩
      have h1 := r.ct (fun i => decide (s1 381 i ≠ -1)) x1 x2
      have h2 : outc g (fun i => decide (s1 381 i ≠ -1)) (s 380) = 0 := by
        have : outc g (fun i => decide (s1 381 i ≠ -1)) (s 380) = smk (fun _ => 0) 100 := smk_congr (fun k hk => by
          unfold ocl
          split
          · rename_i h
            obtain ⟨⟨b1, b2⟩, b3, b4⟩ := h
            simp only [decide_eq_true_eq, decide_eq_false_iff_not] at b3 b4
            have h3 := r.nn (k / 10) (k % 10) b1 b2
            have h4 := a4 (k / 10) (k % 10) b1 b3 b2
            rw [show 10 * (k / 10) + k % 10 = k by omega] at h3 h4
            by_cases h5 : 0 < s 380 k
            · exact absurd (h4 h5) b4
            · omega
          · rfl)
        rw [this]; exact smk_zero _
      omega
    · rw [if_neg e, if_neg (by decide)]
      obtain ⟨s2, fit, b1, b2, b3, b4⟩ := c_addT (N := N) (s := s1) hs hN ht (by rw [s380]; exact r) (by rw [s380]; exact a3) e hft
      rw [b1, Option.bind_some]
      dsimp only
      rw [bl_eq]
      have fl2 : FL σ s2 := fun q hq => (b3 q (by omega)).trans (fl1 q hq)
      have lb2 : T + fit ≤ 600 := by
        have h1 := b4.ct (fun i => decide (i = f)) (by simp) (by simp; exact fun e => hft e.symm)
        have h2 := cutX_b G (fun i => decide (i = f))
        have h3 := outc_nn b4.nn (fun i => decide (i = f))
        omega
      rw [if_pos (by unfold rng; omega)]
      exact ih (w + 1) s2 (T + fit) (by omega) (by omega) fl2 b4 (by omega)
/-- a set as a number -/
def msk (X : Nat → Bool) : Nat → Nat
  | 0 => 0
  | n + 1 => if X n = true then msk X n ||| 2 ^ n else msk X n
theorem msk_lt (X : Nat → Bool) : ∀ n, msk X n < 2 ^ n := by
  intro n
  induction n with
  | zero => exact Nat.one_pos
  | succ n ih =>
    have h1 : 2 ^ n < 2 ^ (n + 1) := Nat.pow_lt_pow_right (by decide) (by omega)
    unfold msk
    split
    · exact Nat.or_lt_two_pow (by omega) h1
    · omega
theorem msk_bit (X : Nat → Bool) : ∀ n i, (msk X n).testBit i = (decide (i < n) && X i) := by
  intro n
  induction n with
  | zero => intro i; simp [msk]
  | succ n ih =>
    intro i
    unfold msk
    by_cases q : X n = true
    · rw [if_pos q, Nat.testBit_or, ih, Nat.testBit_two_pow]
      by_cases e : i = n
      · subst e; simp [q]
      · have e' : ¬ n = i := fun h => e h.symm
        by_cases e2 : i < n
        · have : i < n + 1 := by omega
          simp [e2, this, e']
        · have : ¬ i < n + 1 := by omega
          simp [e2, this, e']
    · rw [if_neg q, ih]
      by_cases e : i = n
      · subst e; simp at q; simp [q]
      · by_cases e2 : i < n
        · have : i < n + 1 := by omega
          simp [e2, this]
        · have : ¬ i < n + 1 := by omega
          simp [e2, this]
theorem hsm_congr (G : GI K g) {F F' : Nat → Nat → Int → Int} (h : ∀ (a b : Nat) (w : Int), (a : Int) < g 0 → (b : Int) < g 0 → F a b w = F' a b w) {k : Nat} (hk : (k : Int) ≤ g 2) : hsm g F k = hsm g F' k := by
  refine smk_congr (fun c hc => ?_)
  have hl := G.ln
  by_cases r : run g c = true
  · rw [if_pos r, if_pos r]
    have rs := run_sz r
    refine smk_congr (fun p hp => ?_)
    have ra := rgs_rng G (c := c) (by omega) (l := (p : Int)) (by omega) (by omega)
    have rb := rgs_rng G (c := c) (by omega) (l := (p : Int) + 1) (by omega) (by omega)
    exact h _ _ _ (by omega) (by omega)
  · rw [if_neg r, if_neg r]
theorem mnc_ge (h : ∀ x : Nat, x < c → bs x f = true → ¬ bs x t = true → T ≤ cutv g x) (hT : T ≤ 1000000000) : T ≤ mnc g f t c := by
  induction c with
  | zero => exact hT
  | succ c ih =>
    have := ih (fun x hx => h x (by omega))
    unfold mnc
    split
    · rename_i w
      have := h c (by omega) w.1 w.2
      split <;> omega
    · exact this
theorem mnc_le {x : Nat} (h1 : bs x f = true) (h2 : ¬ bs x t = true) : ∀ c, x < c → mnc g f t c ≤ cutv g x := by
  intro c
  induction c with
  | zero => intro h; omega
  | succ c ih =>
    intro hx
    unfold mnc
    by_cases e : x = c
    · subst e
      rw [if_pos ⟨h1, h2⟩]
      split <;> omega
    · have := ih (by omega)
      repeat' split
      all_goals omega
theorem mnc_eq (G : GI K g) (hf : (f : Int) < g 0) (ht : (t : Int) < g 0) (h1 : ∀ X : Nat → Bool, X f = true → X t = false → T ≤ cutX g X) (h2 : ∃ X : Nat → Bool, X f = true ∧ X t = false ∧ cutX g X = T) : mnc g f t (2 ^ (g 0).toNat) = T := by
  have hl := G.ln
  obtain ⟨X, x1, x2, x3⟩ := h2
  have hb := cutX_b G X
  have m := msk_lt X (g 0).toNat
  have mb : ∀ i : Nat, (i : Int) < g 0 → bs (msk X (g 0).toNat : Nat) i = X i := fun i hi => by
    rw [bs_nat, msk_bit]
    simp; intro h; omega
  have e : cutv g (msk X (g 0).toNat : Nat) = T := by
    rw [← x3]
    unfold cutv cutX
    refine hsm_congr G (fun a b w ha hb => ?_) (by omega)
    show (if bs (msk X (g 0).toNat : Nat) a = true then (if bs (msk X (g 0).toNat : Nat) b = true then 0 else w) else 0) = _
    rw [mb a ha, mb b hb]
  have le := mnc_le (g := g) (f := f) (t := t) (x := msk X (g 0).toNat) (by rw [mb f hf]; exact x1) (by rw [mb t ht, x2]; decide) _ m
  have ge := mnc_ge (g := g) (f := f) (t := t) (c := 2 ^ (g 0).toNat) (T := T) (fun x _ y1 y2 => by
    have := h1 (fun i => bs x i) y1 (by simpa using y2)
    exact this) (by omega)
  omega
theorem c_greatest (nr : NR 1 σ g) (G : GI K g) (R : RW 1 σ) (hN : 2000 < N) (hf : (f : Int) < g 0) (ht : (t : Int) < g 0) (hft : f ≠ t) : ∃ s, f_X5_greatest N σ 379 1 f t = some (s, mnc g f t (2 ^ (g 0).toNat)) ∧ FL σ s := by
  have hs := G.st
  obtain ⟨s1, n, a1, a2, a3, a4⟩ := c_gather (N := N) nr G R (by omega)
  obtain ⟨s2, b1, b2, b3⟩ := c_fill (N := N) s1 380 21 0 (show alen 21 < N by show 100 < N; omega)
  have b3' : ∀ i, i < 100 → s2 380 i = 0 := b3
  have fl2 : FL σ s2 := fun r hr => (b2 r (by omega)).trans (a2 r hr)
  have hv : HV g s2 n (fun F => hsm g F (g 2).toNat) := by
    refine HV.mk (by rw [b2 379 (by decide)]; exact a4.ct) a4.nn (fun F => ?_) (fun h hh => ?_)
    · rw [b2 383 (by decide), b2 384 (by decide), b2 385 (by decide)]; exact a4.sm F
    · rw [b2 383 (by decide), b2 384 (by decide), b2 385 (by decide)]; exact a4.rg h hh
  obtain ⟨s3, c1, c2, c3, c4⟩ := c_g16 (N := N) (fl2.nr nr G R) G (by omega) a3 hv b3' (f : Int) (t : Int)
  have fl3 := fl2.trans c2
  have rm : RM g f t (s3 380) 0 := RM.mk (fun a b ha hb => (c3 _ (by omega)).1) (fun a b ha hb => by
    have := c3 (10 * a + b) (by omega)
    have := c3 (10 * b + a) (by omega)
    omega) (fun X _ _ => by rw [c4 X]; unfold cutX; omega)
  obtain ⟨s4, T, d1, d2, d3, d4⟩ := c_g70 (N := N) G (by omega) hf ht hft R nr N 0 s3 0 (by omega) (by omega) fl3 rm (by omega)
  refine ⟨s4, ?_, d2⟩
  unfold f_X5_greatest
  rw [a1, Option.bind_some, show f_J7_fill_53178 N s1 (379 + 1) 21 0 = some s2 from b1, Option.bind_some, c1, Option.bind_some, show f_X5_greatest_70 N 379 1 f t N s3 0 0 = _ from d1, Option.bind_some, mnc_eq G hf ht d3 d4]
theorem zFl_cases (g : Ga) (x y : Int) : (zFl g x y = 0 ∧ (0 ≤ x ∧ x < g 0) ∧ (0 ≤ y ∧ y < g 0) ∧ x ≠ y) ∨ (zFl g x y = 1 ∧ ¬ ((0 ≤ x ∧ x < g 0) ∧ 0 ≤ y ∧ y < g 0)) ∨ (zFl g x y = 2 ∧ ((0 ≤ x ∧ x < g 0) ∧ 0 ≤ y ∧ y < g 0) ∧ x = y) := by
  unfold zFl
  by_cases h : (0 ≤ x ∧ x < g 0) ∧ 0 ≤ y ∧ y < g 0
  · rw [if_pos h]
    by_cases h2 : x = y
    · rw [if_pos h2]; exact Or.inr (Or.inr ⟨rfl, h, h2⟩)
    · rw [if_neg h2]; exact Or.inl ⟨rfl, h.1, h.2, h2⟩
  · rw [if_neg h]; exact Or.inr (Or.inl ⟨rfl, h⟩)
theorem op_fl {fc : Option (So Sm)} {fm : Option (Sm × Int)} (I : INV K σ μ) (x y : Int) (hN : 2000 < N) (hc1 : ∀ z : Int, 1 ≤ z → z ≤ 5 → zFl (μ 1) x y = z → fc = some (σ, z.toNat, 0)) (hc2 : zFl (μ 1) x y = 0 → ∀ f t : Nat, x = f → y = t → (f : Int) < μ 1 0 → (t : Int) < μ 1 0 → f ≠ t → ∃ s, FL σ s ∧ fc = some (s, 0, mnc (μ 1) f t (2 ^ (μ 1 0).toNat))) (hm : fm = (f_X13_cut N μ x y).bind fun v => some (v.1, v.2)) : OK2 fc fm K [(1, 1), (2, 2)] := by
  have hs := I.gi.st
  rcases zFl_cases (μ 1) x y with ⟨h, h1, h2, h3⟩ | ⟨h, h1⟩ | ⟨h, h1, h2⟩
  · obtain ⟨f, rfl, hf10, hf⟩ := isSt_cases I.gi h1
    obtain ⟨t, rfl, ht10, ht⟩ := isSt_cases I.gi h2
    obtain ⟨s, c1, c2⟩ := hc2 h f t rfl rfl hf ht (by omega)
    have e1 : upm μ 11 0 0 1 = μ 1 := upm_role (by decide)
    have k := m_cut42 (μ := upm μ 11 0 0) (N := N) (f := f) (t := t) (by rw [e1]; exact I.gi) hN (by rw [e1]; exact hf) (by rw [e1]; exact ht)
    rw [e1] at k
    refine ⟨s, 0, _, upm μ 11 0 0, _, c2, ?_, Or.inl ⟨rfl, upm_same _ _ _ _, rfl⟩, ask_ok I (fun r _ _ h => upm_role h) (fun r hr => c1 r (by omega))⟩
    rw [hm]
    unfold f_X13_cut
    rw [m_areStops I.gi, Option.bind_some, if_pos (show (0 ≤ (f : Int) ∧ (f : Int) < μ 1 0) ∧ 0 ≤ (t : Int) ∧ (t : Int) < μ 1 0 from ⟨h1, h2⟩), if_neg (by decide), if_neg h3, bl_eq, upm_same, if_pos (by decide), k]; rfl
  · refine OK2.no (z := 1) (w := 1) (v := 0) I (hc1 1 (by decide) (by decide) h) ?_ (by decide) (by decide)
    rw [hm]
    unfold f_X13_cut
    rw [m_areStops I.gi, Option.bind_some, if_neg h1, if_pos rfl, bl_eq, upm_same, if_neg (by decide)]; rfl
  · refine OK2.no (z := 2) (w := 2) (v := 0) I (hc1 2 (by decide) (by decide) h) ?_ (by decide) (by decide)
    rw [hm]
    unfold f_X13_cut
    rw [m_areStops I.gi, Option.bind_some, if_pos h1, if_neg (by decide), if_pos h2, bl_eq, upm_same, if_neg (by decide)]; rfl
theorem op_flow (I : INV K σ μ) (x y : Int) (hN : 2000 < N) : OK2 (f_X12_flow N σ x y) (f_X13_flow N μ x y) K [(1, 1), (2, 2)] := by
  refine op_fl I x y hN (fun z h1 h2 h => ?_) (fun h f t hx hy hf ht hft => ?_) rfl
  · unfold f_X12_flow
    rw [cl_ref (z := z) (by rw [c_flF I.nr, h]) ⟨h1, h2⟩]
  · subst hx; subst hy
    obtain ⟨s, c1, c2⟩ := c_greatest (N := N) I.nr I.gi (I.rw 1 (Or.inl rfl)) hN hf ht hft
    refine ⟨s, c2, ?_⟩
    unfold f_X12_flow
    rw [cl_go (by rw [c_flF I.nr, h])]
    dsimp only
    rw [c1]; rfl
theorem op_smallestCut (I : INV K σ μ) (x y : Int) (hN : 2000 < N) : OK2 (f_X12_smallestCut N σ x y) (f_X13_smallestCut N μ x y) K [(1, 1), (2, 2)] := by
  refine op_fl I x y hN (fun z h1 h2 h => ?_) (fun h f t hx hy hf ht hft => ?_) rfl
  · unfold f_X12_smallestCut
    rw [cl_ref (z := z) (by rw [c_flF I.nr, h]) ⟨h1, h2⟩]
  · subst hx; subst hy
    obtain ⟨s, c1, c2⟩ := c_leastCut (N := N) I.nr I.gi (I.rw 1 (Or.inl rfl)) hN hf ht
    refine ⟨s, c2, ?_⟩
    unfold f_X12_smallestCut
    rw [cl_go (by rw [c_flF I.nr, h])]
    dsimp only
    rw [c1]; rfl
end FA
