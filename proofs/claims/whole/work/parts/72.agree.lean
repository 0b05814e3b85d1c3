/-! agreement of class and model, part 72 -/
/-! tickets of the class -/
def mxh (f : Nat → Int) : Nat → Int
  | 0 => 0
  | n + 1 => if mxh f n < f n then f n else mxh f n
def smk (f : Nat → Int) : Nat → Int
  | 0 => 0
  | n + 1 => smk f n + f n
theorem mxh_rng {f : Nat → Int} {B : Int} {n : Nat} (hB : 0 ≤ B) (h : ∀ k, k < n → f k ≤ B) : 0 ≤ mxh f n ∧ mxh f n ≤ B := by
  induction n with
  | zero => exact ⟨Int.le_refl _, hB⟩
  | succ n ih =>
    have h1 := ih (fun k hk => h k (by omega))
    have h2 := h n (by omega)
    unfold mxh
    split <;> omega
theorem mxh_congr {f f' : Nat → Int} {n : Nat} (h : ∀ k, k < n → f k = f' k) : mxh f n = mxh f' n := by
  induction n with
  | zero => rfl
  | succ n ih => unfold mxh; rw [ih (fun k hk => h k (by omega)), h n (by omega)]
theorem smk_congr {f f' : Nat → Int} {n : Nat} (h : ∀ k, k < n → f k = f' k) : smk f n = smk f' n := by
  induction n with
  | zero => rfl
  | succ n ih => unfold smk; rw [ih (fun k hk => h k (by omega)), h n (by omega)]
theorem smk_rng {f : Nat → Int} {B : Int} {n : Nat} (h : ∀ k, k < n → -B ≤ f k ∧ f k ≤ B) : -(B * n) ≤ smk f n ∧ smk f n ≤ B * n := by
  induction n with
  | zero => simp [smk]
  | succ n ih =>
    have h1 := ih (fun k hk => h k (by omega))
    have h2 := h n (by omega)
    unfold smk
    rw [show ((n + 1 : Nat) : Int) = (n : Int) + 1 from rfl, Int.mul_add]
    omega
theorem ctk_smk (p : Nat → Bool) (n : Nat) : ctk p n = smk (fun k => if p k then 1 else 0) n := by
  induction n with
  | zero => rfl
  | succ n ih => unfold ctk smk; rw [ih]
/-- seats left on the hops from a to e -/
def fre (g : Ga) (c : Nat) (t a e : Int) : Int := gl g c 4 - mxh (fun i => sold g c t (a + i)) (e - a).toNat
def chg (g : Ga) (c t p : Int) : Int := smk (fun k => (if gt g k 1 = c ∧ gt g k 2 = t ∧ gt g k 3 = p then 1 else 0) - (if gt g k 1 = c ∧ gt g k 2 = t ∧ gt g k 4 = p then 1 else 0)) (g 3).toNat
def prs (g : Ga) : Int := smk (fun k => gt g k 5) (g 3).toNat
def plt (g : Ga) (i : Int) : Int := ffd (fun k => gt g k 0 = i) (g 3).toNat
section CT
variable {b : Nat} {σ : Sm} {g : Ga} {K : Int} {N : Nat}
theorem sold_rng (G : GI K g) (c t h : Int) : 0 ≤ sold g c t h ∧ sold g c t h ≤ 16 := by
  have h1 := ctk_rng (fun k => decide (gt g k 1 = c ∧ gt g k 2 = t ∧ gt g k 3 ≤ h ∧ h < gt g k 4)) (g 3).toNat
  have h2 := G.tk
  unfold sold
  omega
theorem tof_rng (G : GI K g) (c : Int) : 0 ≤ tof g c ∧ tof g c ≤ 16 := by
  have h1 := ctk_rng (fun k => decide (gt g k 1 = c)) (g 3).toNat
  have h2 := G.tk
  unfold tof
  omega
theorem c_tk (h : NR b σ g) {k : Nat} (hk : (k : Int) < g 3) {v : Nat} (hv : v < 6) : σ (σ (b + 5 + 1) (k : Int).toNat).toNat v = gt g k v := h.ti k hk v hv
theorem c_countOfLine (h : NR b σ g) (G : GI K g) (c : Int) (hN : 16 < N) : f_X11_countOfLine N σ (b + 5) c = some (tof g c) := by
  have h4 := G.tk
  obtain ⟨z, hz⟩ := Int.eq_ofNat_of_zero_le h4.1
  have e := lp_up (f_X11_countOfLine_4 σ (b + 5) c) id (ctk (fun k => decide (gt g k 1 = c))) z (fun n => ?_) (fun n k hk => ?_) N 0 (by omega) (by omega)
  · unfold f_X11_countOfLine tof
    rw [hz]
    exact (congrArg (fun q => Option.bind q _) e).trans rfl
  · rw [f_X11_countOfLine_4, h.tk, if_pos (by omega)]; rfl
  · have hr := ctk_rng (fun k => decide (gt g k 1 = c)) k
    rw [f_X11_countOfLine_4, h.tk, if_neg (by omega), if_pos (by omega), c_tk h (by omega) (by omega), ctk]
    by_cases q : gt g k 1 = c
    · rw [if_pos q, if_pos (by unfold rng; omega), if_pos (by simpa using q)]; rfl
    · rw [if_neg q, if_neg (by simpa using q), Int.add_zero]; rfl
theorem c_isFor (h : NR b σ g) {k : Nat} (hk : (k : Int) < g 3) (c t : Int) : f_X10_isFor σ (σ (b + 5 + 1) (k : Int).toNat).toNat c t = some (if gt g k 1 = c ∧ gt g k 2 = t then 1 else 0) := by
  unfold f_X10_isFor
  rw [c_tk h hk (by omega), c_tk h hk (by omega)]
  repeat' split
  all_goals first | rfl | (exfalso; omega)
theorem c_countOnHop (h : NR b σ g) (G : GI K g) (c t p : Int) (hN : 16 < N) : f_X11_countOnHop N σ (b + 5) c t p = some (sold g c t p) := by
  have h4 := G.tk
  obtain ⟨z, hz⟩ := Int.eq_ofNat_of_zero_le h4.1
  have e := lp_up (f_X11_countOnHop_6 σ (b + 5) c t p) id (ctk (fun k => decide (gt g k 1 = c ∧ gt g k 2 = t ∧ gt g k 3 ≤ p ∧ p < gt g k 4))) z (fun n => ?_) (fun n k hk => ?_) N 0 (by omega) (by omega)
  · unfold f_X11_countOnHop sold
    rw [hz]
    exact (congrArg (fun q => Option.bind q _) e).trans rfl
  · rw [f_X11_countOnHop_6, h.tk, if_pos (by omega)]; rfl
  · have hr := ctk_rng (fun k => decide (gt g k 1 = c ∧ gt g k 2 = t ∧ gt g k 3 ≤ p ∧ p < gt g k 4)) k
    rw [f_X11_countOnHop_6, h.tk, if_neg (by omega), if_pos (by omega), c_isFor h (by omega), Option.bind_some, c_tk h (by omega) (by omega), c_tk h (by omega) (by omega), ctk]
    by_cases q : gt g k 1 = c ∧ gt g k 2 = t
    · rw [if_pos q, if_neg (by decide)]
      by_cases q2 : gt g k 3 ≤ p ∧ p < gt g k 4
      · rw [if_neg (by omega), if_neg (by omega), if_pos (by unfold rng; omega), if_pos (by simp; exact ⟨q.1, q.2, q2.1, q2.2⟩)]; rfl
      · rw [if_neg (show ¬ decide (gt g k 1 = c ∧ gt g k 2 = t ∧ gt g k 3 ≤ p ∧ p < gt g k 4) = true by simp; intro _ _; omega), Int.add_zero]
        by_cases q3 : p < gt g k 3
        · rw [if_pos q3]; rfl
        · rw [if_neg q3, if_pos (by omega)]; rfl
    · rw [if_neg q, if_pos rfl, if_neg (show ¬ decide (gt g k 1 = c ∧ gt g k 2 = t ∧ gt g k 3 ≤ p ∧ p < gt g k 4) = true by simp; omega), Int.add_zero]; rfl
theorem fre_rng (G : GI K g) {c : Nat} (hc : c < 5) (t a e : Int) : 0 ≤ fre g c t a e ∧ fre g c t a e ≤ 20 := by
  have h1 := mxh_rng (f := fun i => sold g c t (a + i)) (B := gl g c 4) (n := (e - a).toNat) (G.li c hc).se.1 (fun k _ => G.cap c hc t _)
  have h2 := (G.li c hc).se
  unfold fre
  omega
theorem c_seatsLeft (h : NR b σ g) (G : GI K g) {c : Nat} (hc : (c : Int) < g 2) (t a e : Int) (hae : a ≤ e ∧ e ≤ a + 6) (hN : 16 < N) : f_X8_seatsLeft N σ b c t a e = some (fre g c t a e) := by
  have hc5 : c < 5 := by have := G.ln; omega
  obtain ⟨z, hz⟩ := Int.eq_ofNat_of_zero_le (show 0 ≤ e - a by omega)
  have e9 := lp_up (fun n v k => f_X8_seatsLeft_6 N σ b c t e n v (a + k)) id (mxh (fun i => sold g c t (a + i))) z (fun n => ?_) (fun n k hk => ?_) N 0 (by omega) (by omega)
  · unfold f_X8_seatsLeft fre
    rw [hz]
    simp only [Int.toNat_natCast]
    have e2 : f_X8_seatsLeft_6 N σ b c t e N 0 a = some (mxh (fun i => sold g c t (a + i)) z) := by
      have e3 : a + ((0 : Nat) : Int) = a := by omega
      rw [e3] at e9; exact e9
    have h1 := fre_rng G hc5 t a e
    unfold fre at h1
    rw [hz] at h1
    simp only [Int.toNat_natCast] at h1
    rw [e2, Option.bind_some, if_pos (by omega), (h.li c hc).2.2.2.2.1, if_pos (by unfold rng; omega)]
  · show f_X8_seatsLeft_6 N σ b c t e (n + 1) _ (a + (z : Int)) = _
    rw [f_X8_seatsLeft_6, if_pos (by omega)]; rfl
  · show f_X8_seatsLeft_6 N σ b c t e (n + 1) _ (a + (k : Int)) = f_X8_seatsLeft_6 N σ b c t e n _ (a + ((k + 1 : Nat) : Int))
    rw [f_X8_seatsLeft_6, if_neg (by omega), c_countOnHop h G _ _ _ hN, Option.bind_some, show a + ((k + 1 : Nat) : Int) = a + (k : Int) + 1 by omega, mxh]
    unfold f_J9_max_7cf53
    split <;> rfl
theorem c_changeAt (h : NR b σ g) (G : GI K g) (c t p : Int) (hN : 16 < N) : f_X11_changeAt N σ (b + 5) c t p = some (chg g c t p) := by
  have h4 := G.tk
  obtain ⟨z, hz⟩ := Int.eq_ofNat_of_zero_le h4.1
  have e := lp_up (f_X11_changeAt_6 σ (b + 5) c t p) id (smk (fun k => (if gt g k 1 = c ∧ gt g k 2 = t ∧ gt g k 3 = p then 1 else 0) - (if gt g k 1 = c ∧ gt g k 2 = t ∧ gt g k 4 = p then 1 else 0))) z (fun n => ?_) (fun n k hk => ?_) N 0 (by omega) (by omega)
  · unfold f_X11_changeAt chg
    rw [hz]
    exact (congrArg (fun q => Option.bind q _) e).trans rfl
  · rw [f_X11_changeAt_6, h.tk, if_pos (by omega)]; rfl
  · have hr := smk_rng (f := fun k => (if gt g k 1 = c ∧ gt g k 2 = t ∧ gt g k 3 = p then (1 : Int) else 0) - (if gt g k 1 = c ∧ gt g k 2 = t ∧ gt g k 4 = p then 1 else 0)) (B := 1) (n := k) (fun k _ => by split <;> split <;> omega)
    rw [f_X11_changeAt_6, h.tk, if_neg (by omega), if_pos (by omega), c_isFor h (by omega), Option.bind_some, Option.bind_some, c_tk h (by omega) (by omega), c_tk h (by omega) (by omega), smk]
    by_cases q : gt g k 1 = c ∧ gt g k 2 = t
    · rw [if_pos q]
      simp only [q, true_and]
      by_cases q2 : gt g k 3 = p
      · by_cases q3 : gt g k 4 = p
        · simp only [q2, q3, if_true, Option.bind_some]
          rw [if_neg (by decide), if_neg (by decide), if_pos (by unfold rng; omega)]
          rw [show ∀ x : Int, x + 1 + (-1) = x + (1 - 1) by intro x; omega]; rfl
        · simp only [q2, q3, if_true, if_false, Option.bind_some]
          rw [if_neg (by decide), if_neg (by decide), if_pos (by unfold rng; omega)]; rfl
      · by_cases q3 : gt g k 4 = p
        · simp only [q2, q3, if_true, if_false, Option.bind_some]
          rw [if_neg (by decide), if_neg (by decide), if_pos (by unfold rng; omega)]; rfl
        · simp only [q2, q3, if_false, Option.bind_some]
          rw [if_neg (by decide), if_neg (by decide)]
          rw [show ∀ x : Int, x + (0 - 0) = x by intro x; omega]; rfl
    · rw [if_neg q, if_pos rfl, if_pos rfl, if_neg (by intro q2; exact q ⟨q2.1, q2.2.1⟩), if_neg (by intro q2; exact q ⟨q2.1, q2.2.1⟩)]
      rw [show ∀ x : Int, x + (0 - 0) = x by intro x; omega]; rfl
theorem sold_before (G : GI K g) (c t : Int) : sold g c t (-1) = 0 := by
  unfold sold
  have : ∀ n : Nat, (n : Int) ≤ g 3 → ctk (fun k => decide (gt g k 1 = c ∧ gt g k 2 = t ∧ gt g k 3 ≤ -1 ∧ -1 < gt g k 4)) n = 0 := by
    intro n
    induction n with
    | zero => intro _; rfl
    | succ n ih =>
      intro hn
      have h1 := (G.ti n (by omega)).fr
      rw [ctk, ih (by omega), if_neg (by simp; omega)]; rfl
  exact this _ (by have := G.tk; omega)
theorem sold_step (G : GI K g) (c t p : Int) : sold g c t p = sold g c t (p - 1) + chg g c t p := by
  unfold sold chg
  have : ∀ n : Nat, (n : Int) ≤ g 3 → ctk (fun k => decide (gt g k 1 = c ∧ gt g k 2 = t ∧ gt g k 3 ≤ p ∧ p < gt g k 4)) n = ctk (fun k => decide (gt g k 1 = c ∧ gt g k 2 = t ∧ gt g k 3 ≤ p - 1 ∧ p - 1 < gt g k 4)) n + smk (fun k => (if gt g k 1 = c ∧ gt g k 2 = t ∧ gt g k 3 = p then 1 else 0) - (if gt g k 1 = c ∧ gt g k 2 = t ∧ gt g k 4 = p then 1 else 0)) n := by
    intro n
    induction n with
    | zero => intro _; rfl
    | succ n ih =>
      intro hn
      have h1 := (G.ti n (by omega)).fr
      rw [ctk, ctk, smk, ih (by omega)]
      simp only [decide_eq_true_eq]
      by_cases q1 : gt g n 1 = c
      · by_cases q2 : gt g n 2 = t
        · simp only [q1, q2, true_and]
          repeat' split
          all_goals omega
        · simp [q2]
      · simp [q1]
  exact this _ (by have := G.tk; omega)
theorem c_seatsLeftSwept (h : NR b σ g) (G : GI K g) {c : Nat} (hc : (c : Int) < g 2) (t a e : Int) (hae : 0 ≤ a ∧ a ≤ e ∧ e ≤ 6) (hN : 16 < N) : f_X8_seatsLeftSwept N σ b c t a e = some (fre g c t a e) := by
  have hc5 : c < 5 := by have := G.ln; omega
  obtain ⟨z, hz⟩ := Int.eq_ofNat_of_zero_le (show 0 ≤ e by omega)
  obtain ⟨y, hy⟩ := Int.eq_ofNat_of_zero_le (show 0 ≤ a by omega)
  have e9 := lp_up (fun n (v : Int × Int) k => f_X8_seatsLeftSwept_9 N σ b c t a e n v.1 v.2 k) (fun v => v.2) (fun k => (sold g c t ((k : Int) - 1), mxh (fun i => sold g c t (a + i)) (k - y))) z (fun n => ?_) (fun n k hk => ?_) N 0 (by omega) (by omega)
  · unfold f_X8_seatsLeftSwept fre
    have h1 := fre_rng G hc5 t a e
    unfold fre at h1
    rw [show (e - a).toNat = z - y by omega] at h1 ⊢
    have e2 : f_X8_seatsLeftSwept_9 N σ b c t a e N 0 0 0 = some (mxh (fun i => sold g c t (a + i)) (z - y)) := by
      have e3 : sold g c t (((0 : Nat) : Int) - 1) = 0 := sold_before G _ _
      have e4 : 0 - y = 0 := by omega
      dsimp only at e9
      rw [e3, e4] at e9
      exact e9
    rw [e2, Option.bind_some, if_pos (by omega), Int.toNat_natCast, (h.li c hc).2.2.2.2.1, if_pos (by unfold rng; omega)]
  · show f_X8_seatsLeftSwept_9 N σ b c t a e (n + 1) _ _ (z : Int) = _
    rw [f_X8_seatsLeftSwept_9, if_pos (by omega)]
  · show f_X8_seatsLeftSwept_9 N σ b c t a e (n + 1) (sold g c t ((k : Int) - 1)) (mxh (fun i => sold g c t (a + i)) (k - y)) (k : Int) = f_X8_seatsLeftSwept_9 N σ b c t a e n (sold g c t (((k + 1 : Nat) : Int) - 1)) (mxh (fun i => sold g c t (a + i)) (k + 1 - y)) ((k + 1 : Nat) : Int)
    have hs := sold_rng G c t k
    rw [f_X8_seatsLeftSwept_9, if_neg (by omega), c_changeAt h G _ _ _ hN, Option.bind_some, bl_eq, ← sold_step G, show (((k + 1 : Nat) : Int) - 1) = (k : Int) by omega]
    by_cases q : (k : Int) < a
    · rw [if_pos q, if_pos (by unfold rng; omega), show k + 1 - y = k - y by omega]; rfl
    · rw [if_neg q, if_pos (by unfold rng; omega), show k + 1 - y = (k - y) + 1 by omega, mxh, show a + ((k - y : Nat) : Int) = (k : Int) by omega]
      unfold f_J9_max_7cf53
      split <;> rfl
theorem c_priceSum (h : NR b σ g) (G : GI K g) (hN : 16 < N) : f_X11_priceSum N σ (b + 5) = some (prs g) := by
  have h4 := G.tk
  obtain ⟨z, hz⟩ := Int.eq_ofNat_of_zero_le h4.1
  have e := lp_up (f_X11_priceSum_4 σ (b + 5)) id (smk (fun k => gt g k 5)) z (fun n => ?_) (fun n k hk => ?_) N 0 (by omega) (by omega)
  · unfold f_X11_priceSum prs
    rw [hz]
    exact (congrArg (fun q => Option.bind q _) e).trans rfl
  · rw [f_X11_priceSum_4, h.tk, if_pos (by omega)]; rfl
  · have hr := smk_rng (f := fun k => gt g k 5) (B := 18) (n := k + 1) (fun j hj => by have := (G.ti j (by omega)).pr; omega)
    rw [smk] at hr
    rw [f_X11_priceSum_4, h.tk, if_neg (by omega), if_pos (by omega), c_tk h (by omega) (by omega), smk, bl_eq, if_pos (by unfold rng; omega)]; rfl
theorem c_placeOfId (h : NR b σ g) (G : GI K g) (i : Int) (hN : 16 < N) : f_X11_placeOfId N σ (b + 5) i = some (plt g i) := by
  have h4 := G.tk
  obtain ⟨z, hz⟩ := Int.eq_ofNat_of_zero_le h4.1
  have e := lp_ff (f_X11_placeOfId_2 σ (b + 5) i) (fun v => if v = -1 then Sum.inr () else Sum.inl v) (fun k => gt g k 0 = i) z (fun n => ?_) (fun n k hk => ?_) N 0 (by omega) (by omega) (fun j hj => by omega)
  · unfold f_X11_placeOfId plt
    rw [hz]
    simp only [Int.toNat_natCast]
    rw [show ((0 : Nat) : Int) = 0 from rfl] at e
    rw [e, Option.bind_some]
    rcases ffd_rng (fun k => decide (gt g k 0 = i)) z with e2 | e2
    · rw [e2]; rfl
    · rw [if_neg (by omega)]; rfl
  · rw [f_X11_placeOfId_2, h.tk, if_pos (by omega)]; rfl
  · rw [f_X11_placeOfId_2, h.tk, if_neg (by omega), if_pos (by omega), c_tk h (by omega) (by omega)]
    simp only [decide_eq_true_eq]
    rw [if_neg (show ¬ ((k : Int) = -1) by omega)]
    rfl
end CT
