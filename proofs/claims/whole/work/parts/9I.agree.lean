/-! agreement of class and model, part 9I -/
/-! flows: the hops -/
def hsl (g : Ga) (c : Nat) (F : Nat → Nat → Int → Int) (k : Nat) : Int := smk (fun p => F (rgs g c p).toNat (rgs g c ((p : Int) + 1)).toNat (gl g c 4)) k
def hsm (g : Ga) (F : Nat → Nat → Int → Int) (k : Nat) : Int := smk (fun c => if run g c then hsl g c F (gl g c 5).toNat else 0) k
def FL (σ s : Sm) : Prop := ∀ r, r < 379 ∨ 385 < r → s r = σ r
abbrev HF : Type := (Nat → Nat → Int → Int) → Int
def HV (g : Ga) (s : Sm) (n : Int) (H : HF) : Prop := (s 379 3 = n) ∧ (0 ≤ n) ∧ (∀ F : Nat → Nat → Int → Int, smk (fun h => F (s 383 h).toNat (s 384 h).toNat (s 385 h)) n.toNat = H F) ∧ (∀ h : Nat, (h : Int) < n → (0 ≤ s 383 h ∧ s 383 h < g 0) ∧ (0 ≤ s 384 h ∧ s 384 h < g 0) ∧ 0 ≤ s 385 h ∧ s 385 h ≤ 20)
theorem HV.ct {g : Ga} {s : Sm} {n : Int} {H : HF} (h : HV g s n H) : s 379 3 = n := h.1
theorem HV.nn {g : Ga} {s : Sm} {n : Int} {H : HF} (h : HV g s n H) : 0 ≤ n := h.2.1
theorem HV.sm {g : Ga} {s : Sm} {n : Int} {H : HF} (h : HV g s n H) : ∀ F : Nat → Nat → Int → Int, smk (fun h => F (s 383 h).toNat (s 384 h).toNat (s 385 h)) n.toNat = H F := h.2.2.1
theorem HV.rg {g : Ga} {s : Sm} {n : Int} {H : HF} (h : HV g s n H) : ∀ h : Nat, (h : Int) < n → (0 ≤ s 383 h ∧ s 383 h < g 0) ∧ (0 ≤ s 384 h ∧ s 384 h < g 0) ∧ 0 ≤ s 385 h ∧ s 385 h ≤ 20 := h.2.2.2
theorem HV.mk {g : Ga} {s : Sm} {n : Int} {H : HF} (ct9 : s 379 3 = n) (nn9 : 0 ≤ n) (sm9 : ∀ F : Nat → Nat → Int → Int, smk (fun h => F (s 383 h).toNat (s 384 h).toNat (s 385 h)) n.toNat = H F) (rg9 : ∀ h : Nat, (h : Int) < n → (0 ≤ s 383 h ∧ s 383 h < g 0) ∧ (0 ≤ s 384 h ∧ s 384 h < g 0) ∧ 0 ≤ s 385 h ∧ s 385 h ≤ 20) : HV g s n H := ⟨ct9, nn9, sm9, rg9⟩
/-- what leaves the set x -/
def cutv (g : Ga) (x : Int) : Int := hsm g (fun a b w => if bs x a = true then (if bs x b = true then 0 else w) else 0) (g 2).toNat
/-- the least cut among the sets below m -/
def mnc (g : Ga) (f t : Nat) : Nat → Int
  | 0 => 1000000000
  | m + 1 => if bs m f = true ∧ ¬ bs m t = true then (if cutv g m < mnc g f t m then cutv g m else mnc g f t m) else mnc g f t m
section FH
variable {σ s μ : Sm} {g : Ga} {K n : Int} {N f t c : Nat} {H : HF}
theorem FL.refl (σ : Sm) : FL σ σ := fun _ _ => rfl
theorem FL.trans {υ : Sm} (h : FL σ s) (h2 : FL s υ) : FL σ υ := fun r h3 => (h2 r h3).trans (h r h3)
theorem FL.nr (h : FL σ s) (n : NR 1 σ g) (G : GI K g) (R : RW 1 σ) : NR 1 s g := n.same R G.tk.2 G.ln.2 (fun r h1 h2 => h r (by omega))
theorem FL.rw (h : FL σ s) (R : RW 1 σ) : RW 1 s := R.same (h 7 (by omega))
theorem FL.up {r : Nat} (h : FL σ s) (hr : 379 ≤ r ∧ r ≤ 385) (i : Nat) (v : Int) : FL σ (upm s r i v) := fun q hq => by rw [upm_role (by omega)]; exact h q hq
theorem HV.add (h : HV g s n H) (hn : n < 30) {a b w : Int} (ha : 0 ≤ a ∧ a < g 0) (hb : 0 ≤ b ∧ b < g 0) (hw : 0 ≤ w ∧ w ≤ 20) : HV g (upm (upm (upm (upm s 383 n.toNat a) 384 n.toNat b) 385 n.toNat w) 379 3 (n + 1)) (n + 1) (fun F => H F + F a.toNat b.toNat w) := by
  obtain ⟨k, hk⟩ := Int.eq_ofNat_of_zero_le h.nn
  subst hk
  rw [Int.toNat_natCast]
  obtain ⟨X, hX⟩ : ∃ X, X = upm (upm (upm (upm s 383 k a) 384 k b) 385 k w) 379 3 ((k : Int) + 1) := ⟨_, rfl⟩
  rw [← hX]
  have e1 : X 383 k = a := by subst hX; rw [upm_role (by decide), upm_role (by decide), upm_role (by decide), upm_same]
  have e2 : X 384 k = b := by subst hX; rw [upm_role (by decide), upm_role (by decide), upm_same]
  have e3 : X 385 k = w := by subst hX; rw [upm_role (by decide), upm_same]
  have c1 : ∀ i, i ≠ k → X 383 i = s 383 i := fun i hi => by subst hX; rw [upm_role (by decide), upm_role (by decide), upm_role (by decide), upm_cell hi]
  have c2 : ∀ i, i ≠ k → X 384 i = s 384 i := fun i hi => by subst hX; rw [upm_role (by decide), upm_role (by decide), upm_cell hi, upm_role (by decide)]
  have c3 : ∀ i, i ≠ k → X 385 i = s 385 i := fun i hi => by subst hX; rw [upm_role (by decide), upm_cell hi, upm_role (by decide), upm_role (by decide)]
  refine HV.mk (by subst hX; exact upm_same _ _ _ _) (by omega) (fun F => ?_) (fun i hi => ?_)
  · rw [show ((k : Int) + 1).toNat = k + 1 by omega]
    have hs := h.sm F
    rw [Int.toNat_natCast] at hs
    show smk (fun h => F (X 383 h).toNat (X 384 h).toNat (X 385 h)) k + F (X 383 k).toNat (X 384 k).toNat (X 385 k) = H F + F a.toNat b.toNat w
    rw [e1, e2, e3, ← hs]
    congr 1
    refine smk_congr (fun i hi => ?_)
    rw [c1 i (by omega), c2 i (by omega), c3 i (by omega)]
  · by_cases e : i = k
    · subst e
      rw [e1, e2, e3]; exact ⟨ha, hb, hw⟩
    · rw [c1 i e, c2 i e, c3 i e]
      exact h.rg i (by omega)
theorem c_g42 (nr : NR 1 σ g) (G : GI K g) (R : RW 1 σ) (hN : 16 < N) (hc : (c : Int) < g 2) (x2 x4 : Int) (hx : x4 = if run g c = true then gl g c 5 else 0) (hn : n ≤ 6 * c) (h : HV g σ n H) : ∃ (s : Sm) (n' : Int), f_X5_gatherHops_42 379 1 (1 + 23 + 2 * c) x2 x4 N σ 0 = some s ∧ FL σ s ∧ n' ≤ 6 * c + 6 ∧ HV g s n' (fun F => H F + if run g c then hsl g c F (gl g c 5).toNat else 0) := by
  have hc5 : c < 5 := by have := G.ln; omega
  have sz := (G.li c hc5).sz
  have se := (G.li c hc5).se
  obtain ⟨m, rfl⟩ : ∃ k, N = k + 1 := ⟨N - 1, by omega⟩
  by_cases hr : run g c = true
  · have rs := run_sz hr
    obtain ⟨z, hz⟩ := Int.eq_ofNat_of_zero_le sz.1
    have hx1 : x4 = z := by rw [hx, if_pos hr, hz]
    obtain ⟨v, ⟨p1, p2⟩, e⟩ := lp_inv (fun n (v : Sm) k => f_X5_gatherHops_42 379 1 (1 + 23 + 2 * c) x2 x4 n v k) id (fun k v => FL σ v ∧ HV g v (n + k) (fun F => H F + hsl g c F k)) z (fun n' v hP => by
        show f_X5_gatherHops_42 379 1 (1 + 23 + 2 * c) x2 x4 (n' + 1) v (z : Int) = _
        rw [f_X5_gatherHops_42, if_pos (by omega)]; rfl) (fun n' k v hk hP => by
        obtain ⟨p1, p2⟩ := hP
        have nn := p1.nr nr G R
        have ra := rgs_rng G hc5 (l := (k : Int)) (by omega) (by omega)
        have rb := rgs_rng G hc5 (l := (k : Int) + 1) (by omega) (by omega)
        have ad := p2.add (by omega) ra rb se
        have n0 := h.nn
        refine ⟨upm (upm (upm (upm v 383 (n + k).toNat (rgs g c k)) 384 (n + k).toNat (rgs g c ((k : Int) + 1))) 385 (n + k).toNat (gl g c 4)) 379 3 (n + k + 1), ⟨?_, ?_⟩, ?_⟩
        · exact (((p1.up (r := 383) (by decide) (n + k).toNat (rgs g c k)).up (r := 384) (by decide) (n + k).toNat (rgs g c ((k : Int) + 1))).up (r := 385) (by decide) (n + k).toNat (gl g c 4)).up (r := 379) (by decide) 3 (n + k + 1)
        · have e : (n + ((k + 1 : Nat) : Int)) = n + k + 1 := by omega
          rw [e]
          refine HV.mk ad.ct ad.nn (fun F => ?_) ad.rg
          rw [ad.sm F]
          show H F + hsl g c F k + F (rgs g c k).toNat (rgs g c ((k : Int) + 1)).toNat (gl g c 4) = H F + (hsl g c F k + F (rgs g c k).toNat (rgs g c ((k : Int) + 1)).toNat (gl g c 4))
          omega
        · show f_X5_gatherHops_42 379 1 (1 + 23 + 2 * c) x2 x4 (n' + 1) v (k : Int) = _
          have f1 := p1.up (r := 383) (by decide) (n + k).toNat (rgs g c k)
          have n1 := f1.nr nr G R
          have f2 := f1.up (r := 384) (by decide) (n + k).toNat (rgs g c ((k : Int) + 1))
          have n2 := f2.nr nr G R
          have t1 : upm v 383 (n + k).toNat (rgs g c k) 379 3 = n + k := by rw [upm_role (by decide)]; exact p2.ct
          have t2 : upm (upm v 383 (n + k).toNat (rgs g c k)) 384 (n + k).toNat (rgs g c ((k : Int) + 1)) 379 3 = n + k := by rw [upm_role (by decide)]; exact t1
          have t3 : upm (upm (upm v 383 (n + k).toNat (rgs g c k)) 384 (n + k).toNat (rgs g c ((k : Int) + 1))) 385 (n + k).toNat (gl g c 4) 379 3 = n + k := by rw [upm_role (by decide)]; exact t2
          rw [f_X5_gatherHops_42, if_neg (by omega), p2.ct, if_neg (by omega), c_stopOn nn G hc (by omega) (by omega), Option.bind_some, if_pos (by omega), bl_eq, c_stopOn n1 G hc (by omega) (by omega), Option.bind_some]
          simp only [bl_eq]
          rw [t1, if_pos (by omega), t2, if_pos (by omega), (n2.li c hc).2.2.2.2.1, t3, if_pos (by unfold rng; omega)]; rfl) (m + 1) 0 σ (by omega) (by omega) ⟨FL.refl _, by
          refine HV.mk (by rw [h.ct]; omega) (by have := h.nn; omega) (fun F => ?_) (fun i hi => h.rg i (by omega))
          rw [show (n + ((0 : Nat) : Int)).toNat = n.toNat by omega, h.sm F]
          show H F = H F + 0
          omega⟩
    refine ⟨v, n + z, e, p1, by omega, ?_⟩
    have e9 : (fun F => H F + if run g c = true then hsl g c F (gl g c 5).toNat else 0) = fun F => H F + hsl g c F z := by
      funext F; rw [if_pos hr, show (gl g c 5).toNat = z by omega]
    rw [e9]; exact p2
  · have hx0 : x4 = 0 := by rw [hx, if_neg hr]
    refine ⟨σ, n, ?_, FL.refl _, by omega, ?_⟩
    · rw [f_X5_gatherHops_42, if_pos (by omega)]
    · refine HV.mk h.ct h.nn (fun F => ?_) h.rg
      rw [h.sm F, if_neg hr]; omega
theorem c_gather (nr : NR 1 σ g) (G : GI K g) (R : RW 1 σ) (hN : 16 < N) : ∃ (s : Sm) (n : Int), f_X5_gatherHops N σ 379 1 = some s ∧ FL σ s ∧ n ≤ 30 ∧ HV g s n (fun F => hsm g F (g 2).toNat) := by
  have hl := G.ln
  obtain ⟨z, hz⟩ := Int.eq_ofNat_of_zero_le hl.1
  have f0 : FL σ (upm σ 379 3 0) := (FL.refl σ).up (by decide) 3 0
  obtain ⟨v, ⟨p1, n, p2, p3⟩, e⟩ := lp_inv (fun n (v : Sm) k => f_X5_gatherHops_7 N 379 1 n v k) id (fun k v => FL σ v ∧ ∃ n : Int, n ≤ 6 * k ∧ HV g v n (fun F => hsm g F k)) z (fun n' v hP => by
      have nn := hP.1.nr nr G R
      show f_X5_gatherHops_7 N 379 1 (n' + 1) v (z : Int) = _
      rw [f_X5_gatherHops_7, nn.ln, if_pos (by omega)]; rfl) (fun n' k v hk hP => by
      obtain ⟨p1, n, p2, p3⟩ := hP
      have nn := p1.nr nr G R
      have hkg : (k : Int) < g 2 := by omega
      obtain ⟨s, n2, q1, q2, q3, q4⟩ := c_g42 (N := N) (c := k) nn G (p1.rw R) hN hkg (k : Int) _ rfl (by omega) p3
      refine ⟨s, ⟨p1.trans q2, n2, by omega, q4⟩, ?_⟩
      show f_X5_gatherHops_7 N 379 1 (n' + 1) v (k : Int) = _
      rw [f_X5_gatherHops_7, nn.ln, if_neg (by omega), if_pos (by omega), Int.toNat_natCast, c_isRunning nn hkg, Option.bind_some]
      by_cases hr : run g k = true
      · rw [if_pos hr] at q1
        rw [if_pos hr, if_neg (by decide), bl_eq, (nn.li k hkg).2.2.2.2.2.2, q1, Option.bind_some]; rfl
      · rw [if_neg hr] at q1
        rw [if_neg hr, if_pos rfl, q1, Option.bind_some]; rfl) N 0 (upm σ 379 3 0) (by omega) (by omega) ⟨f0, 0, by omega, HV.mk (upm_same _ _ _ _) (by omega) (fun F => rfl) (fun i hi => by omega)⟩
  refine ⟨v, n, ?_, p1, by omega, ?_⟩
  · unfold f_X5_gatherHops
    rw [bl_eq, show f_X5_gatherHops_7 N 379 1 N (upm σ 379 3 0) 0 = some v from e]; rfl
  · rw [show (g 2).toNat = z by omega]; exact p3
/-- the seats out of a set, in the class -/
theorem c_seatsOut (G : GI K g) (hN : 40 < N) (hn : n ≤ 30) (h : HV g s n H) {x : Int} (hx : 0 ≤ x) : f_X5_seatsOut N s 379 x = some (H (fun a b w => if bs x a = true then (if bs x b = true then 0 else w) else 0)) := by
  have hs := G.st
  obtain ⟨z, hz⟩ := Int.eq_ofNat_of_zero_le h.nn
  have F := fun a b w => if bs x a = true then (if bs x b = true then (0 : Int) else w) else 0
  obtain ⟨S, hS⟩ : ∃ S : Nat → Int, S = smk (fun i => if bs x (s 383 i).toNat = true then (if bs x (s 384 i).toNat = true then (0 : Int) else s 385 i) else 0) := ⟨_, rfl⟩
  have step : ∀ k, S (k + 1) = S k + (if bs x (s 383 k).toNat = true then (if bs x (s 384 k).toNat = true then (0 : Int) else s 385 k) else 0) := fun k => by subst hS; rfl
  have e := lp_up (fun n (v : Int) k => f_X5_seatsOut_4 s 379 x n v k) id S z (fun n' => by
      show f_X5_seatsOut_4 s 379 x (n' + 1) (S z) (z : Int) = _
      rw [f_X5_seatsOut_4, h.ct, if_pos (by omega)]; rfl) (fun n' k hk => by
      have r := h.rg k (by omega)
      have r1 := r.1
      have r2 := r.2.1
      have r3 := r.2.2
      have sb : -(20 * (k : Int)) ≤ S k ∧ S k ≤ 20 * (k : Int) := by
        subst hS
        refine smk_rng (fun i hi => ?_)
        have := (h.rg i (by omega)).2.2
        repeat' split
        all_goals omega
      show f_X5_seatsOut_4 s 379 x (n' + 1) (S k) (k : Int) = f_X5_seatsOut_4 s 379 x n' (S (k + 1)) ((k + 1 : Nat) : Int)
      rw [step k, f_X5_seatsOut_4, h.ct, if_neg (by omega), if_pos (by omega), Int.toNat_natCast, if_pos (show 0 ≤ s (379 + 4) k ∧ s (379 + 4) k < 32 by show 0 ≤ s 383 k ∧ s 383 k < 32; omega), if_pos hx]
      by_cases q1 : bs x (s 383 k).toNat = true
      · rw [if_pos (show x / 2 ^ (s (379 + 4) k).toNat % 2 = 1 by unfold bs at q1; simpa using q1), if_pos (show 0 ≤ s (379 + 5) k ∧ s (379 + 5) k < 32 by show 0 ≤ s 384 k ∧ s 384 k < 32; omega), if_pos q1]
        by_cases q2 : bs x (s 384 k).toNat = true
        · rw [if_neg (show ¬ x / 2 ^ (s (379 + 5) k).toNat % 2 = 0 by
            have : x / 2 ^ (s (379 + 5) k).toNat % 2 = 1 := by unfold bs at q2; simpa using q2
            omega), if_pos q2, Int.add_zero]; rfl
        · rw [if_pos (show x / 2 ^ (s (379 + 5) k).toNat % 2 = 0 by
            have : ¬ x / 2 ^ (s (379 + 5) k).toNat % 2 = 1 := by unfold bs at q2; simpa using q2
            have h2 := Int.emod_two_eq (x / 2 ^ (s (379 + 5) k).toNat)
            omega), if_neg q2, bl_eq, if_pos (show rng (S k + s (379 + 6) k) by show rng (S k + s 385 k); unfold rng; omega)]; rfl
      · rw [if_neg (show ¬ x / 2 ^ (s (379 + 4) k).toNat % 2 = 1 by unfold bs at q1; simpa using q1), if_neg q1, Int.add_zero]; rfl) N 0 (by omega) (by omega)
  unfold f_X5_seatsOut
  have e' : f_X5_seatsOut_4 s 379 x N 0 0 = some (S z) := by
    have h0 : S 0 = 0 := by subst hS; rfl
    rw [h0] at e; exact e
  rw [e', Option.bind_some, ← h.sm, show n.toNat = z by omega, hS]
theorem two_pow_lt {k : Int} (h : 0 ≤ k ∧ k ≤ 10) : ∃ z : Nat, (1 : Int) * 2 ^ k.toNat = (z : Int) ∧ z = 2 ^ k.toNat ∧ 1 ≤ z ∧ z ≤ 1024 := by
  refine ⟨2 ^ k.toNat, ?_, rfl, Nat.one_le_two_pow, ?_⟩
  · rw [Int.one_mul]; rfl
  · have : 2 ^ k.toNat ≤ 2 ^ 10 := Nat.pow_le_pow_right (by decide) (by omega)
    exact this
theorem c_leastCut (nr : NR 1 σ g) (G : GI K g) (R : RW 1 σ) (hN : 2000 < N) (hf : (f : Int) < g 0) (ht : (t : Int) < g 0) : ∃ s, f_X5_leastCut N σ 379 1 f t = some (s, mnc g f t (2 ^ (g 0).toNat)) ∧ FL σ s := by
  have hs := G.st
  obtain ⟨s, n, q1, q2, q3, q4⟩ := c_gather (N := N) nr G R (by omega)
  have nn := q2.nr nr G R
  obtain ⟨z, z1, z2, z3, z4⟩ := two_pow_lt hs
  refine ⟨s, ?_, q2⟩
  unfold f_X5_leastCut
  rw [q1, Option.bind_some, nn.st, if_pos (by omega), bl_eq, z1, if_pos (by unfold rng; omega), ← z2]
  have e := lp_up (fun n (v : Int) k => f_X5_leastCut_20 N s 379 f t (z : Int) n v k) id (mnc g f t) z (fun n' => by
      show f_X5_leastCut_20 N s 379 f t (z : Int) (n' + 1) (mnc g f t z) (z : Int) = _
      rw [f_X5_leastCut_20, if_pos (by omega)]; rfl) (fun n' k hk => by
      show f_X5_leastCut_20 N s 379 f t (z : Int) (n' + 1) (mnc g f t k) (k : Int) = f_X5_leastCut_20 N s 379 f t (z : Int) n' (mnc g f t (k + 1)) ((k + 1 : Nat) : Int)
      rw [f_X5_leastCut_20, if_neg (by omega), if_pos (by omega), if_pos (by omega), Int.toNat_natCast, Int.toNat_natCast]
      show _ = f_X5_leastCut_20 N s 379 f t (z : Int) n' (if bs k f = true ∧ ¬ bs k t = true then (if cutv g k < mnc g f t k then cutv g k else mnc g f t k) else mnc g f t k) ((k + 1 : Nat) : Int)
      by_cases q1 : bs k f = true
      · rw [if_pos (show (k : Int) / 2 ^ f % 2 = 1 by unfold bs at q1; simpa using q1), if_pos (by omega)]
        by_cases q2 : bs k t = true
        · rw [if_neg (show ¬ (k : Int) / 2 ^ t % 2 = 0 by
            have : (k : Int) / 2 ^ t % 2 = 1 := by unfold bs at q2; simpa using q2
            omega), if_neg (fun h => h.2 q2)]; rfl
        · rw [if_pos (show (k : Int) / 2 ^ t % 2 = 0 by
            have : ¬ (k : Int) / 2 ^ t % 2 = 1 := by unfold bs at q2; simpa using q2
            have h2 := Int.emod_two_eq ((k : Int) / 2 ^ t)
            omega), if_pos ⟨q1, q2⟩, c_seatsOut G (by omega) q3 q4 (by omega), Option.bind_some]
          have mn : ∀ u v : Int, f_J9_min_7cf53 u v = some (if v < u then v else u) := fun u v => by
            unfold f_J9_min_7cf53; split <;> rfl
          rw [mn, Option.bind_some]; rfl
      · rw [if_neg (show ¬ (k : Int) / 2 ^ f % 2 = 1 by unfold bs at q1; simpa using q1), if_neg (fun h => q1 h.1)]; rfl) N 0 (by omega) (by omega)
  rw [show f_X5_leastCut_20 N s 379 f t (z : Int) N 1000000000 0 = some (mnc g f t z) from e]; rfl
/-- the model's cuts -/
theorem m_cut28 (G : GI K (μ 1)) (hN : 16 < N) (hc : (c : Int) < μ 1 2) (hr : run (μ 1) c = true) {x : Int} (hx : 0 ≤ x) {y : Int} (hy : 0 ≤ y ∧ y ≤ 10000) : f_X13_cutOf_28 μ x c N y 0 = some (y + hsl (μ 1) c (fun a b w => if bs x a = true then (if bs x b = true then 0 else w) else 0) (gl (μ 1) c 5).toNat) := by
  have hs := G.st
  have hc5 : c < 5 := by have := G.ln; omega
  have sz := (G.li c hc5).sz
  have se := (G.li c hc5).se
  have rs := run_sz hr
  obtain ⟨z, hz⟩ := Int.eq_ofNat_of_zero_le sz.1
  obtain ⟨S, hS⟩ : ∃ S : Nat → Int, S = hsl (μ 1) c (fun a b w => if bs x a = true then (if bs x b = true then 0 else w) else 0) := ⟨_, rfl⟩
  have step : ∀ k : Nat, S (k + 1) = S k + (if bs x (rgs (μ 1) c k).toNat = true then (if bs x (rgs (μ 1) c ((k : Int) + 1)).toNat = true then 0 else gl (μ 1) c 4) else 0) := fun k => by subst hS; rfl
  have e := lp_up (fun n (v : Int) k => f_X13_cutOf_28 μ x c n v k) id (fun k => y + S k) z (fun n' => by
      show f_X13_cutOf_28 μ x c (n' + 1) (y + S z) (z : Int) = _
      rw [f_X13_cutOf_28, m_l5 hc5, Option.bind_some, if_pos (by omega)]; rfl) (fun n' k hk => by
      have ra := rgs_rng G hc5 (l := (k : Int)) (by omega) (by omega)
      have rb := rgs_rng G hc5 (l := (k : Int) + 1) (by omega) (by omega)
      obtain ⟨a, ha⟩ := Int.eq_ofNat_of_zero_le ra.1
      obtain ⟨b, hb⟩ := Int.eq_ofNat_of_zero_le rb.1
      have sb : -(20 * (k : Int)) ≤ S k ∧ S k ≤ 20 * (k : Int) := by
        subst hS
        refine smk_rng (fun i hi => ?_)
        show -20 ≤ (if bs x (rgs (μ 1) c i).toNat = true then (if bs x (rgs (μ 1) c ((i : Int) + 1)).toNat = true then 0 else gl (μ 1) c 4) else 0) ∧ (if bs x (rgs (μ 1) c i).toNat = true then (if bs x (rgs (μ 1) c ((i : Int) + 1)).toNat = true then 0 else gl (μ 1) c 4) else 0) ≤ 20
        repeat' split
        all_goals omega
      show f_X13_cutOf_28 μ x c (n' + 1) (y + S k) (k : Int) = f_X13_cutOf_28 μ x c n' (y + S (k + 1)) ((k + 1 : Nat) : Int)
      rw [step k, f_X13_cutOf_28, m_l5 hc5, Option.bind_some, if_neg (by omega), m_at G hc5 (by omega) (by omega), Option.bind_some, ha, hb, m_has hx (by omega), Option.bind_some, Int.toNat_natCast, Int.toNat_natCast]
      by_cases q1 : bs x a = true
      · rw [if_pos q1, if_neg (by decide), if_pos q1, m_at G hc5 (by omega) (by omega), Option.bind_some, hb, m_has hx (by omega), Option.bind_some]
        by_cases q2 : bs x b = true
        · rw [if_pos q2, if_neg (by decide), if_pos q2, bl_eq, if_pos (by unfold rng; omega), Int.add_zero, Int.add_zero]; rfl
        · rw [if_neg q2, if_pos rfl, if_neg q2, m_l4 hc5, Option.bind_some, bl_eq, if_pos (by unfold rng; omega), Int.add_assoc]; rfl
      · rw [if_neg q1, if_pos rfl, if_neg q1, bl_eq, if_pos (by unfold rng; omega), Int.add_zero, Int.add_zero]; rfl) N 0 (by omega) (by omega)
  have e' : f_X13_cutOf_28 μ x c N y 0 = some (y + S z) := by
    have h0 : S 0 = 0 := by subst hS; rfl
    rw [h0, Int.add_zero] at e; exact e
  rw [e', hS, show (gl (μ 1) c 5).toNat = z by omega]
theorem hsm_b (G : GI K g) {F : Nat → Nat → Int → Int} (hF : ∀ a b w, 0 ≤ w → w ≤ 20 → 0 ≤ F a b w ∧ F a b w ≤ 20) {k : Nat} (hk : k ≤ 5) : 0 ≤ hsm g F k ∧ hsm g F k ≤ 120 * k := by
  have hl : ∀ c, c < 5 → 0 ≤ hsl g c F (gl g c 5).toNat ∧ hsl g c F (gl g c 5).toNat ≤ 120 := fun c hc => by
    have sz := (G.li c hc).sz
    have se := (G.li c hc).se
    refine ⟨smk_nn (fun p _ => (hF _ _ _ se.1 se.2).1), ?_⟩
    have := (smk_rng (B := 20) (n := (gl g c 5).toNat) (f := fun p => F (rgs g c p).toNat (rgs g c ((p : Int) + 1)).toNat (gl g c 4)) (fun p _ => by have := hF (rgs g c p).toNat (rgs g c ((p : Int) + 1)).toNat _ se.1 se.2; omega)).2
    unfold hsl
    omega
  refine ⟨smk_nn (fun c hc => ?_), ?_⟩
  · split
    · exact (hl c (by omega)).1
    · omega
  · have := (smk_rng (B := 120) (n := k) (f := fun c => if run g c = true then hsl g c F (gl g c 5).toNat else 0) (fun c hc => by
      have := hl c (by omega)
      show -120 ≤ (if run g c = true then hsl g c F (gl g c 5).toNat else 0) ∧ (if run g c = true then hsl g c F (gl g c 5).toNat else 0) ≤ 120
      split <;> omega)).2
    unfold hsm
    exact this
theorem cutF (x : Int) : ∀ (a b : Nat) (w : Int), 0 ≤ w → w ≤ 20 → 0 ≤ (if bs x a = true then (if bs x b = true then 0 else w) else 0) ∧ (if bs x a = true then (if bs x b = true then 0 else w) else 0) ≤ 20 := fun a b w h1 h2 => by
  repeat' split
  all_goals omega
theorem m_cutOf (G : GI K (μ 1)) (hN : 16 < N) {x : Int} (hx : 0 ≤ x) : f_X13_cutOf N μ x = some (cutv (μ 1) x) := by
  have hl := G.ln
  obtain ⟨z, hz⟩ := Int.eq_ofNat_of_zero_le hl.1
  have e := lp_up (fun n (v : Int) k => f_X13_cutOf_4 N μ x n v k) id (hsm (μ 1) (fun a b w => if bs x a = true then (if bs x b = true then 0 else w) else 0)) z (fun n' => by
      show f_X13_cutOf_4 N μ x (n' + 1) _ (z : Int) = _
      rw [f_X13_cutOf_4, if_pos (by omega)]; rfl) (fun n' k hk => by
      have hb := hsm_b G (cutF x) (k := k) (by omega)
      show f_X13_cutOf_4 N μ x (n' + 1) (hsm (μ 1) (fun a b w => if bs x a = true then (if bs x b = true then 0 else w) else 0) k) (k : Int) = f_X13_cutOf_4 N μ x n' (hsm (μ 1) (fun a b w => if bs x a = true then (if bs x b = true then 0 else w) else 0) k + (if run (μ 1) k then hsl (μ 1) k (fun a b w => if bs x a = true then (if bs x b = true then 0 else w) else 0) (gl (μ 1) k 5).toNat else 0)) ((k + 1 : Nat) : Int)
      rw [f_X13_cutOf_4, if_neg (by omega), m_isRunning (by omega), Option.bind_some]
      by_cases hr : run (μ 1) k = true
      · rw [if_pos hr, if_neg (by decide), m_cut28 G hN (by omega) hr hx (by omega), Option.bind_some, if_pos hr]; rfl
      · rw [if_neg hr, if_pos rfl, if_neg hr, Int.add_zero]; rfl) N 0 (by omega) (by omega)
  unfold f_X13_cutOf cutv
  rw [show f_X13_cutOf_4 N μ x N 0 0 = _ from e, Option.bind_some, show (μ 1 2).toNat = z by omega]; rfl
theorem m_cut42 (G : GI K (μ 1)) (hN : 2000 < N) (hf : (f : Int) < μ 1 0) (ht : (t : Int) < μ 1 0) : f_X13_cut_42 N μ f t N 1000000000 0 = some (mnc (μ 1) f t (2 ^ (μ 1 0).toNat)) := by
  have hs := G.st
  obtain ⟨z, z1, z2, z3, z4⟩ := two_pow_lt hs
  rw [← z2]
  have e := lp_up (fun n (v : Int) k => f_X13_cut_42 N μ f t n v k) id (mnc (μ 1) f t) z (fun n' => by
      show f_X13_cut_42 N μ f t (n' + 1) (mnc (μ 1) f t z) (z : Int) = _
      rw [f_X13_cut_42, if_pos (by omega), z1, if_pos (by unfold rng; omega), if_pos (by omega)]; rfl) (fun n' k hk => by
      show f_X13_cut_42 N μ f t (n' + 1) (mnc (μ 1) f t k) (k : Int) = f_X13_cut_42 N μ f t n' (mnc (μ 1) f t (k + 1)) ((k + 1 : Nat) : Int)
      rw [f_X13_cut_42, if_pos (by omega), z1, if_pos (by unfold rng; omega), if_neg (by omega), m_has (by omega) (by omega), Option.bind_some]
      show _ = f_X13_cut_42 N μ f t n' (if bs k f = true ∧ ¬ bs k t = true then (if cutv (μ 1) k < mnc (μ 1) f t k then cutv (μ 1) k else mnc (μ 1) f t k) else mnc (μ 1) f t k) ((k + 1 : Nat) : Int)
      by_cases q1 : bs k f = true
      · rw [if_pos q1, if_neg (by decide), m_has (by omega) (by omega), Option.bind_some]
        by_cases q2 : bs k t = true
        · rw [if_pos q2, if_neg (by decide), if_neg (fun h => h.2 q2)]; rfl
        · rw [if_neg q2, if_pos rfl, m_cutOf G (by omega) (by omega), Option.bind_some, if_pos (show bs (k : Int) f = true ∧ ¬ bs (k : Int) t = true from ⟨q1, q2⟩)]
          by_cases q3 : mnc (μ 1) f t k ≤ cutv (μ 1) k
          · rw [if_pos q3, if_neg (by omega)]; rfl
          · rw [if_neg q3, if_pos (by omega)]; rfl
      · rw [if_neg q1, if_pos rfl, if_neg (fun h => q1 h.1)]; rfl) N 0 (by omega) (by omega)
  exact e
end FH
