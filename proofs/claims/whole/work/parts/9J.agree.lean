/-! agreement of class and model, part 9J -/
/-! flows: rooms and ways -/
def cutX (g : Ga) (X : Nat → Bool) : Int := hsm g (fun a b w => if X a = true then (if X b = true then 0 else w) else 0) (g 2).toNat
def ocl (g : Ga) (X : Nat → Bool) (R : Ga) (k : Nat) : Int := if (((k / 10 : Nat) : Int) < g 0 ∧ ((k % 10 : Nat) : Int) < g 0) ∧ X (k / 10) = true ∧ X (k % 10) = false then R k else 0
def outc (g : Ga) (X : Nat → Bool) (R : Ga) : Int := smk (ocl g X R) 100
def RM (g : Ga) (f : Nat) (t : Nat) (R : Ga) (T : Int) : Prop := (∀ a b : Nat, (a : Int) < g 0 → (b : Int) < g 0 → 0 ≤ R (10 * a + b)) ∧ (∀ a b : Nat, (a : Int) < g 0 → (b : Int) < g 0 → R (10 * a + b) + R (10 * b + a) ≤ 1200) ∧ (∀ X : Nat → Bool, X f = true → X t = false → outc g X R = cutX g X - T)
theorem RM.nn {g : Ga} {f : Nat} {t : Nat} {R : Ga} {T : Int} (h : RM g f t R T) : ∀ a b : Nat, (a : Int) < g 0 → (b : Int) < g 0 → 0 ≤ R (10 * a + b) := h.1
theorem RM.ub {g : Ga} {f : Nat} {t : Nat} {R : Ga} {T : Int} (h : RM g f t R T) : ∀ a b : Nat, (a : Int) < g 0 → (b : Int) < g 0 → R (10 * a + b) + R (10 * b + a) ≤ 1200 := h.2.1
theorem RM.ct {g : Ga} {f : Nat} {t : Nat} {R : Ga} {T : Int} (h : RM g f t R T) : ∀ X : Nat → Bool, X f = true → X t = false → outc g X R = cutX g X - T := h.2.2
theorem RM.mk {g : Ga} {f : Nat} {t : Nat} {R : Ga} {T : Int} (nn9 : ∀ a b : Nat, (a : Int) < g 0 → (b : Int) < g 0 → 0 ≤ R (10 * a + b)) (ub9 : ∀ a b : Nat, (a : Int) < g 0 → (b : Int) < g 0 → R (10 * a + b) + R (10 * b + a) ≤ 1200) (ct9 : ∀ X : Nat → Bool, X f = true → X t = false → outc g X R = cutX g X - T) : RM g f t R T := ⟨nn9, ub9, ct9⟩
def BQ (g : Ga) (R : Ga) (f : Nat) (cf : Ga) (qu : Ga) (n : Int) (d : Nat → Nat) : Prop := (cf f ≠ -1) ∧ (∀ i : Nat, (i : Int) < g 0 → cf i = -1 ∨ ∃ p : Nat, cf i = (p : Int) ∧ (p : Int) < g 0 ∧ cf p ≠ -1 ∧ (i = f ∨ (d p < d i ∧ 0 < R (10 * p + i)))) ∧ (∀ i : Nat, (i : Int) < g 0 → cf i ≠ -1 → (d i : Int) < n) ∧ (∀ j : Nat, (j : Int) < n → ∃ i : Nat, qu j = (i : Int) ∧ (i : Int) < g 0 ∧ cf i ≠ -1) ∧ (∀ i : Nat, (i : Int) < g 0 → cf i ≠ -1 → ∃ j : Nat, (j : Int) < n ∧ qu j = (i : Int)) ∧ (1 ≤ n ∧ n ≤ ctk (fun i => cf i ≠ -1) (g 0).toNat)
theorem BQ.c0 {g : Ga} {R : Ga} {f : Nat} {cf : Ga} {qu : Ga} {n : Int} {d : Nat → Nat} (h : BQ g R f cf qu n d) : cf f ≠ -1 := h.1
theorem BQ.cr {g : Ga} {R : Ga} {f : Nat} {cf : Ga} {qu : Ga} {n : Int} {d : Nat → Nat} (h : BQ g R f cf qu n d) : ∀ i : Nat, (i : Int) < g 0 → cf i = -1 ∨ ∃ p : Nat, cf i = (p : Int) ∧ (p : Int) < g 0 ∧ cf p ≠ -1 ∧ (i = f ∨ (d p < d i ∧ 0 < R (10 * p + i))) := h.2.1
theorem BQ.dn {g : Ga} {R : Ga} {f : Nat} {cf : Ga} {qu : Ga} {n : Int} {d : Nat → Nat} (h : BQ g R f cf qu n d) : ∀ i : Nat, (i : Int) < g 0 → cf i ≠ -1 → (d i : Int) < n := h.2.2.1
theorem BQ.qs {g : Ga} {R : Ga} {f : Nat} {cf : Ga} {qu : Ga} {n : Int} {d : Nat → Nat} (h : BQ g R f cf qu n d) : ∀ j : Nat, (j : Int) < n → ∃ i : Nat, qu j = (i : Int) ∧ (i : Int) < g 0 ∧ cf i ≠ -1 := h.2.2.2.1
theorem BQ.qo {g : Ga} {R : Ga} {f : Nat} {cf : Ga} {qu : Ga} {n : Int} {d : Nat → Nat} (h : BQ g R f cf qu n d) : ∀ i : Nat, (i : Int) < g 0 → cf i ≠ -1 → ∃ j : Nat, (j : Int) < n ∧ qu j = (i : Int) := h.2.2.2.2.1
theorem BQ.cn {g : Ga} {R : Ga} {f : Nat} {cf : Ga} {qu : Ga} {n : Int} {d : Nat → Nat} (h : BQ g R f cf qu n d) : 1 ≤ n ∧ n ≤ ctk (fun i => cf i ≠ -1) (g 0).toNat := h.2.2.2.2.2
theorem BQ.mk {g : Ga} {R : Ga} {f : Nat} {cf : Ga} {qu : Ga} {n : Int} {d : Nat → Nat} (c09 : cf f ≠ -1) (cr9 : ∀ i : Nat, (i : Int) < g 0 → cf i = -1 ∨ ∃ p : Nat, cf i = (p : Int) ∧ (p : Int) < g 0 ∧ cf p ≠ -1 ∧ (i = f ∨ (d p < d i ∧ 0 < R (10 * p + i)))) (dn9 : ∀ i : Nat, (i : Int) < g 0 → cf i ≠ -1 → (d i : Int) < n) (qs9 : ∀ j : Nat, (j : Int) < n → ∃ i : Nat, qu j = (i : Int) ∧ (i : Int) < g 0 ∧ cf i ≠ -1) (qo9 : ∀ i : Nat, (i : Int) < g 0 → cf i ≠ -1 → ∃ j : Nat, (j : Int) < n ∧ qu j = (i : Int)) (cn9 : 1 ≤ n ∧ n ≤ ctk (fun i => cf i ≠ -1) (g 0).toNat) : BQ g R f cf qu n d := ⟨c09, cr9, dn9, qs9, qo9, cn9⟩
section FW
variable {σ s μ : Sm} {g R cf qu : Ga} {K n T : Int} {N f t c : Nat} {d : Nat → Nat} {H : HF}
theorem smk_at {F F' : Nat → Int} {j : Nat} : ∀ n : Nat, j < n → (∀ k, k ≠ j → F' k = F k) → smk F' n = smk F n + (F' j - F j) := by
  intro n
  induction n with
  | zero => intro h; omega
  | succ n ih =>
    intro hj h
    show smk F' n + F' n = smk F n + F n + (F' j - F j)
    by_cases e : j = n
    · subst e
      have : smk F' j = smk F j := smk_congr (fun k hk => h k (by omega))
      omega
    · have := ih (by omega) h
      rw [h n (fun e2 => e e2.symm)]
      omega
theorem outc_up (hs : g 0 ≤ 10) (X : Nat → Bool) (R : Ga) {a b : Nat} (ha : (a : Int) < g 0) (hb : (b : Int) < g 0) (v : Int) : outc g X (upf R (10 * a + b) v) = outc g X R + (if X a = true ∧ X b = false then v - R (10 * a + b) else 0) := by
  have h := smk_at (F := ocl g X R) (F' := ocl g X (upf R (10 * a + b) v)) (j := 10 * a + b) 100 (by omega) (fun k hk => by
    unfold ocl; rw [upf_ne hk])
  have d1 : (10 * a + b) / 10 = a := by omega
  have d2 : (10 * a + b) % 10 = b := by omega
  have key : ocl g X (upf R (10 * a + b) v) (10 * a + b) - ocl g X R (10 * a + b) = if X a = true ∧ X b = false then v - R (10 * a + b) else 0 := by
    unfold ocl
    rw [d1, d2, upf_eq]
    by_cases q : X a = true ∧ X b = false
    · rw [if_pos q, if_pos ⟨⟨ha, hb⟩, q⟩, if_pos ⟨⟨ha, hb⟩, q⟩]
    · rw [if_neg q, if_neg (fun h => q h.2), if_neg (fun h => q h.2)]; rfl
  unfold outc
  rw [h, key]
theorem smk_zero (n : Nat) : smk (fun _ => 0) n = 0 := by
  induction n with
  | zero => rfl
  | succ n ih => show smk (fun _ => 0) n + 0 = 0; rw [ih]; rfl
/-- the rooms at the beginning -/
theorem c_g16 (nr : NR 1 σ g) (G : GI K g) (hN : 40 < N) (hn : n ≤ 30) (h : HV g σ n H) (hz : ∀ i, i < 100 → σ 380 i = 0) (x2 x3 : Int) : ∃ s, f_X5_greatest_16 379 1 x2 x3 N σ 0 = some s ∧ FL σ s ∧ (∀ i, i < 100 → 0 ≤ s 380 i ∧ s 380 i ≤ 600) ∧ ∀ X : Nat → Bool, outc g X (s 380) = H (fun a b w => if X a = true then (if X b = true then 0 else w) else 0) := by
  have hs := G.st
  obtain ⟨z, hzn⟩ := Int.eq_ofNat_of_zero_le h.nn
  obtain ⟨v, ⟨p1, p2, p3⟩, e⟩ := lp_inv (fun n (v : Sm) k => f_X5_greatest_16 379 1 x2 x3 n v k) id (fun k v => (∀ r, r ≠ 380 → v r = σ r) ∧ (∀ i, i < 100 → 0 ≤ v 380 i ∧ v 380 i ≤ 20 * k) ∧ ∀ X : Nat → Bool, outc g X (v 380) = smk (fun h => if X (σ 383 h).toNat = true then (if X (σ 384 h).toNat = true then 0 else σ 385 h) else 0) k) z (fun n' v hP => by
      show f_X5_greatest_16 379 1 x2 x3 (n' + 1) v (z : Int) = _
      rw [f_X5_greatest_16, hP.1 379 (by decide), h.ct, if_pos (by omega)]; rfl) (fun n' k v hk hP => by
      obtain ⟨p1, p2, p3⟩ := hP
      have hr := h.rg k (by omega)
      obtain ⟨a, ha⟩ := Int.eq_ofNat_of_zero_le hr.1.1
      obtain ⟨b, hb⟩ := Int.eq_ofNat_of_zero_le hr.2.1.1
      have e4 : v (379 + 4) k = (a : Int) := by rw [p1 _ (by decide)]; exact ha
      have e5 : v (379 + 5) k = (b : Int) := by rw [p1 _ (by decide)]; exact hb
      have e6 : v (379 + 6) k = σ 385 k := by rw [p1 _ (by decide)]
      have haS : (a : Int) < g 0 := by rw [← ha]; exact hr.1.2
      have hbS : (b : Int) < g 0 := by rw [← hb]; exact hr.2.1.2
      have hw := hr.2.2
      have hc := p2 (10 * a + b) (by omega)
      have en : (((a : Int) * 10) + b).toNat = 10 * a + b := by omega
      refine ⟨upm v 380 (10 * a + b) (v 380 (10 * a + b) + σ 385 k), ⟨fun r h => by rw [upm_role h]; exact p1 r h, fun i hi => ?_, fun X => ?_⟩, ?_⟩
      · by_cases e : i = 10 * a + b
        · subst e; rw [upm_same]; omega
        · rw [upm_cell e]; have := p2 i hi; omega
      · rw [upm_upf, outc_up hs.2 X (v 380) haS hbS, p3 X]
        show _ = smk _ k + (if X (σ 383 k).toNat = true then (if X (σ 384 k).toNat = true then 0 else σ 385 k) else 0)
        rw [ha, hb, Int.toNat_natCast, Int.toNat_natCast]
        congr 1
        cases X a <;> cases X b <;> simp <;> omega
      · show f_X5_greatest_16 379 1 x2 x3 (n' + 1) v (k : Int) = _
        rw [f_X5_greatest_16, p1 379 (by decide), h.ct, if_neg (by omega), if_pos (by omega), Int.toNat_natCast, e4, e5, e6, if_pos (by omega), en]
        show (if rng (v 380 (10 * a + b) + σ 385 k) then _ else _) = _
        rw [if_pos (by unfold rng; omega), bl_eq]; rfl) N 0 σ (by omega) (by omega) ⟨fun _ _ => rfl, fun i hi => by rw [hz i hi]; omega, fun X => by
        show smk (ocl g X (σ 380)) 100 = 0
        have : smk (ocl g X (σ 380)) 100 = smk (fun _ => 0) 100 := smk_congr (fun k hk => by
          unfold ocl; rw [hz k hk]; split <;> rfl)
        rw [this]; exact smk_zero _⟩
  refine ⟨v, e, fun r hr => p1 r (by omega), fun i hi => ?_, fun X => ?_⟩
  · have := p2 i hi; omega
  · rw [p3 X, ← h.sm, show n.toNat = z by omega]
theorem BQ.nb (hs : 0 ≤ g 0 ∧ g 0 ≤ 10) (q : BQ g R f cf qu n d) : n ≤ 10 := by
  have := ctk_rng (fun i => decide (cf i ≠ -1)) (g 0).toNat
  have := q.cn
  omega
/-- a stop more -/
theorem BQ.add (hs : 0 ≤ g 0 ∧ g 0 ≤ 10) (q : BQ g R f cf qu n d) {st b : Nat} (h1 : (st : Int) < g 0) (h2 : cf st ≠ -1) (hb : (b : Int) < g 0) (h3 : cf b = -1) (h4 : 0 < R (10 * st + b)) : n ≤ 9 ∧ BQ g R f (upf cf b st) (upf qu n.toNat b) (n + 1) (fun i => if i = b then n.toNat else d i) := by
  have hn := q.cn
  have lt := ctk_lt (p := fun i => decide (cf i ≠ -1)) (q := fun _ => true) (j := b) (g 0).toNat (fun _ _ _ => rfl) (by omega) (by simp [h3]) rfl
  have le := ctk_rng (fun _ => true) (g 0).toNat
  obtain ⟨z, hz⟩ := Int.eq_ofNat_of_zero_le (show 0 ≤ n by omega)
  subst hz
  have ne : ∀ i, cf i ≠ -1 → i ≠ b := fun i hi e => by subst e; exact hi h3
  have keep : ∀ i, cf i ≠ -1 → upf cf b st i = cf i := fun i hi => upf_ne (ne i hi)
  rw [Int.toNat_natCast]
  refine ⟨by omega, BQ.mk ?_ (fun i hi => ?_) (fun i hi hc => ?_) (fun j hj => ?_) (fun i hi hc => ?_) ⟨by omega, ?_⟩⟩
  · rw [keep f q.c0]; exact q.c0
  · by_cases e : i = b
    · subst e
      right
      refine ⟨st, upf_eq _ _ _, h1, by rw [keep st h2]; exact h2, Or.inr ⟨?_, h4⟩⟩
      show (if st = i then z else d st) < (if i = i then z else d i)
      rw [if_neg (ne st h2), if_pos rfl]
      have := q.dn st h1 h2
      omega
    · rw [upf_ne e]
      rcases q.cr i hi with h | ⟨p, p1, p2, p3, p4⟩
      · exact Or.inl h
      · right
        refine ⟨p, p1, p2, by rw [keep p p3]; exact p3, ?_⟩
        rcases p4 with h | ⟨p5, p6⟩
        · exact Or.inl h
        · right
          show (if p = b then z else d p) < (if i = b then z else d i) ∧ _
          rw [if_neg (ne p p3), if_neg e]; exact ⟨p5, p6⟩
  · show (((if i = b then z else d i) : Nat) : Int) < _
    by_cases e : i = b
    · rw [if_pos e]; omega
    · rw [if_neg e]
      rw [upf_ne e] at hc
      have := q.dn i hi hc
      omega
  · by_cases e : j = z
    · subst e
      exact ⟨b, upf_eq _ _ _, hb, by rw [upf_eq]; omega⟩
    · obtain ⟨i, i1, i2, i3⟩ := q.qs j (by omega)
      exact ⟨i, by rw [upf_ne e]; exact i1, i2, by rw [keep i i3]; exact i3⟩
  · by_cases e : i = b
    · subst e
      exact ⟨z, by omega, upf_eq _ _ _⟩
    · rw [upf_ne e] at hc
      obtain ⟨j, j1, j2⟩ := q.qo i hi hc
      exact ⟨j, by omega, by rw [upf_ne (by omega)]; exact j2⟩
  · have := ctk_lt (p := fun i => decide (cf i ≠ -1)) (q := fun i => decide (upf cf b st i ≠ -1)) (j := b) (g 0).toNat (fun k hk hp => by
      simp only [decide_eq_true_eq] at hp ⊢
      rw [keep k hp]; exact hp) (by omega) (by simp [h3]) (by simp only [decide_eq_true_eq]; rw [upf_eq]; omega)
    omega
def mon (n : Int) (cf qu cf' qu' : Ga) : Prop := (∀ i, cf i ≠ -1 → cf' i = cf i) ∧ ∀ j : Nat, (j : Int) < n → qu' j = qu j
theorem c_fw47 (G : GI K g) (hN : 16 < N) (x3 x5 : Int) {st : Nat} (h1 : (st : Int) < g 0) (s : Sm) (q : ∃ d, BQ g (s 380) f (s 381) (s 382) n d) (h2 : s 381 st ≠ -1) : ∃ v : Sm × Int, f_X5_findWay_47 379 (g 0) x3 x5 st N s n 0 = some v ∧ (∀ r, r ≠ 381 → r ≠ 382 → v.1 r = s r) ∧ (∃ d, BQ g (s 380) f (v.1 381) (v.1 382) v.2 d) ∧ n ≤ v.2 ∧ mon n (s 381) (s 382) (v.1 381) (v.1 382) ∧ ∀ b : Nat, (b : Int) < g 0 → 0 < s 380 (10 * st + b) → v.1 381 b ≠ -1 := by
  have hs := G.st
  obtain ⟨z, hz⟩ := Int.eq_ofNat_of_zero_le hs.1
  obtain ⟨v, ⟨p1, p2, p3, p4, p5⟩, e⟩ := lp_inv (fun n (v : Sm × Int) k => f_X5_findWay_47 379 (g 0) x3 x5 st n v.1 v.2 k) id (fun k v => (∀ r, r ≠ 381 → r ≠ 382 → v.1 r = s r) ∧ (∃ d, BQ g (s 380) f (v.1 381) (v.1 382) v.2 d) ∧ n ≤ v.2 ∧ mon n (s 381) (s 382) (v.1 381) (v.1 382) ∧ ∀ b : Nat, b < k → 0 < s 380 (10 * st + b) → v.1 381 b ≠ -1) z (fun n' v hP => by
      show f_X5_findWay_47 379 (g 0) x3 x5 st (n' + 1) v.1 v.2 (z : Int) = _
      rw [f_X5_findWay_47, if_pos (by omega)]; rfl) (fun n' k v hk hP => by
      obtain ⟨p1, ⟨d, p2⟩, p3, p4, p5⟩ := hP
      have nb := p2.nb hs
      have n1 := p2.cn
      have r380 : v.1 (379 + 1) = s 380 := p1 380 (by decide) (by decide)
      have en : (((st : Int) * 10) + k).toNat = 10 * st + k := by omega
      have skip : ¬ (v.1 381 k = -1 ∧ 0 < s 380 (10 * st + k)) → ∀ b : Nat, b < k + 1 → 0 < s 380 (10 * st + b) → v.1 381 b ≠ -1 := fun hh b hb hp => by
        by_cases e : b = k
        · subst e; exact fun h => hh ⟨h, hp⟩
        · exact p5 b (by omega) hp
      by_cases q1 : v.1 381 k = -1
      · by_cases q2 : s 380 (10 * st + k) ≤ 0
        · refine ⟨v, ⟨p1, ⟨d, p2⟩, p3, p4, skip (fun h => by omega)⟩, ?_⟩
          show f_X5_findWay_47 379 (g 0) x3 x5 st (n' + 1) v.1 v.2 (k : Int) = _
          rw [f_X5_findWay_47, if_neg (by omega), if_pos (by omega), Int.toNat_natCast, if_pos (show v.1 (379 + 2) k = -1 from q1), if_pos (by omega), en, r380, if_pos q2]; rfl
        · obtain ⟨a1, a2⟩ := p2.add hs h1 (by rw [p4.1 st h2]; exact h2) (b := k) (by omega) q1 (by omega)
          have e1 : upm (upm v.1 381 k st) 382 v.2.toNat k 381 = upf (v.1 381) k st := by rw [upm_role (by decide), upm_upf]
          have e2 : upm (upm v.1 381 k st) 382 v.2.toNat k 382 = upf (v.1 382) v.2.toNat k := by rw [upm_upf, upm_role (by decide)]
          refine ⟨(upm (upm v.1 381 k st) 382 v.2.toNat k, v.2 + 1), ⟨fun r h1 h2 => by dsimp only; rw [upm_role h2, upm_role h1]; exact p1 r h1 h2, ⟨_, by dsimp only; rw [e1, e2]; exact a2⟩, by dsimp only; omega, ⟨fun i hi => ?_, fun j hj => ?_⟩, fun b hb hp => ?_⟩, ?_⟩
          · dsimp only
            have h3 := p4.1 i hi
            rw [e1, upf_ne (fun e => by subst e; omega)]; exact h3
          · dsimp only
            rw [e2, upf_ne (by omega)]; exact p4.2 j hj
          · dsimp only
            rw [e1]
            by_cases e : b = k
            · subst e; rw [upf_eq]; omega
            · rw [upf_ne e]; exact p5 b (by omega) hp
          · show f_X5_findWay_47 379 (g 0) x3 x5 st (n' + 1) v.1 v.2 (k : Int) = _
            rw [f_X5_findWay_47, if_neg (by omega), if_pos (by omega), Int.toNat_natCast, if_pos (show v.1 (379 + 2) k = -1 from q1), if_pos (by omega), en, r380, if_neg q2, if_neg (by omega), bl_eq, if_pos (by omega), bl_eq]; rfl
      · refine ⟨v, ⟨p1, ⟨d, p2⟩, p3, p4, skip (fun h => q1 h.1)⟩, ?_⟩
        show f_X5_findWay_47 379 (g 0) x3 x5 st (n' + 1) v.1 v.2 (k : Int) = _
        rw [f_X5_findWay_47, if_neg (by omega), if_pos (by omega), Int.toNat_natCast, if_neg (show ¬ v.1 (379 + 2) k = -1 from q1)]; rfl) N 0 (s, n) (by omega) (by omega) ⟨fun _ _ _ => rfl, q, Int.le_refl _, ⟨fun _ _ => rfl, fun _ _ => rfl⟩, fun b hb => by omega⟩
  exact ⟨v, e, p1, p2, p3, p4, fun b hb => p5 b (by omega)⟩
theorem c_fw28 (G : GI K g) (hN : 16 < N) (x3 : Int) : ∀ (n' k : Nat) (s : Sm) (n : Int), k ≤ 10 → 10 - k < n' → (k : Int) ≤ n → (∃ d, BQ g (s 380) f (s 381) (s 382) n d) → (∀ j : Nat, j < k → ∀ i b : Nat, s 382 j = (i : Int) → (b : Int) < g 0 → 0 < s 380 (10 * i + b) → s 381 b ≠ -1) → ∃ s', f_X5_findWay_28 N 379 (g 0) x3 n' s n k = some s' ∧ (∀ r, r ≠ 381 → r ≠ 382 → s' r = s r) ∧ (∃ m d, BQ g (s 380) f (s' 381) (s' 382) m d) ∧ ∀ i b : Nat, (i : Int) < g 0 → s' 381 i ≠ -1 → (b : Int) < g 0 → 0 < s 380 (10 * i + b) → s' 381 b ≠ -1 := by
  have hs := G.st
  intro n'
  induction n' with
  | zero => intro k s n _ h; omega
  | succ n' ih =>
    intro k s n hk hn' hkn q pr
    rw [f_X5_findWay_28]
    by_cases e : n ≤ (k : Int)
    · rw [if_pos e]
      obtain ⟨d, q⟩ := q
      refine ⟨s, rfl, fun _ _ _ => rfl, ⟨n, d, q⟩, fun i b hi hc hb hp => ?_⟩
      obtain ⟨j, j1, j2⟩ := q.qo i hi hc
      exact pr j (by omega) i b j2 hb hp
    · rw [if_neg e]
      obtain ⟨d, q'⟩ := q
      have nb := q'.nb hs
      obtain ⟨st, s1, s2, s3⟩ := q'.qs k (by omega)
      obtain ⟨v, v1, v2, v3, v4, v5, v6⟩ := c_fw47 (N := N) (f := f) (n := n) G hN x3 (k : Int) s2 s ⟨d, q'⟩ s3
      rw [if_pos (by omega), bl_eq, Int.toNat_natCast, show s (379 + 3) k = (st : Int) from s1, v1, Option.bind_some]
      have v380 : v.1 380 = s 380 := v2 380 (by decide) (by decide)
      obtain ⟨d', v3'⟩ := v3
      have nb' := v3'.nb hs
      obtain ⟨s', r1, r2, r3, r4⟩ := ih (k + 1) v.1 v.2 (by omega) (by omega) (by omega) (by rw [v380]; exact ⟨d', v3'⟩) (fun j hj i b hq hb hp => by
        rw [v380] at hp
        by_cases e2 : j = k
        · subst e2
          rw [v5.2 j (by omega), s1] at hq
          have : st = i := by omega
          subst this
          exact v6 b hb hp
        · rw [v5.2 j (by omega)] at hq
          have := pr j (by omega) i b hq hb hp
          rw [v5.1 b this]; exact this)
      rw [v380] at r3 r4
      exact ⟨s', r1, fun r h1 h2 => (r2 r h1 h2).trans (v2 r h1 h2), r3, r4⟩
theorem c_findWay (G : GI K g) (hN : 40 < N) (hf : (f : Int) < g 0) (ht : (t : Int) < g 0) (s : Sm) : ∃ s', f_X5_findWay N s 379 (g 0) f t = some (s', if s' 381 t = -1 then 0 else 1) ∧ (∀ r, r ≠ 381 → r ≠ 382 → s' r = s r) ∧ (∃ m d, BQ g (s 380) f (s' 381) (s' 382) m d) ∧ ∀ i b : Nat, (i : Int) < g 0 → s' 381 i ≠ -1 → (b : Int) < g 0 → 0 < s 380 (10 * i + b) → s' 381 b ≠ -1 := by
  have hs := G.st
  obtain ⟨s1, a1, a2, a3⟩ := c_fill (N := N) s 381 20 (-1) (show alen 20 < N by show 10 < N; omega)
  have a3' : ∀ i, i < 10 → s1 381 i = -1 := a3
  obtain ⟨X, hX⟩ : ∃ X, X = upm (upm s1 381 f f) 382 0 f := ⟨_, rfl⟩
  have x381 : X 381 = upf (s1 381) f f := by subst hX; rw [upm_role (by decide), upm_upf]
  have x382 : X 382 0 = f := by subst hX; rw [upm_same]
  have xr : ∀ r, r ≠ 381 → r ≠ 382 → X r = s r := fun r h1 h2 => by subst hX; rw [upm_role h2, upm_role h1]; exact a2 r h1
  have only : ∀ i : Nat, (i : Int) < g 0 → X 381 i ≠ -1 → i = f := fun i hi hc => by
    by_cases e : i = f
    · exact e
    · rw [x381, upf_ne e, a3' i (by omega)] at hc; exact absurd rfl hc
  have xf : X 381 f = f := by rw [x381, upf_eq]
  have q : BQ g (X 380) f (X 381) (X 382) 1 (fun _ => 0) := by
    refine BQ.mk (by rw [xf]; omega) (fun i hi => ?_) (fun i hi hc => by show ((0 : Nat) : Int) < 1; omega) (fun j hj => ?_) (fun i hi hc => ⟨0, by omega, ?_⟩) ⟨by omega, ?_⟩
    · by_cases e : X 381 i = -1
      · exact Or.inl e
      · right
        have := only i hi e
        subst this
        exact ⟨i, xf, hi, by rw [xf]; omega, Or.inl rfl⟩
    · have : j = 0 := by omega
      subst this
      exact ⟨f, x382, hf, by rw [xf]; omega⟩
    · rw [only i hi hc]; exact x382
    · exact ctk_one (p := fun i => decide (X 381 i ≠ -1)) (k := f) (g 0).toNat (by omega) (by simp only [decide_eq_true_eq]; rw [xf]; omega)
  obtain ⟨s', r1, r2, r3, r4⟩ := c_fw28 (N := N) (f := f) G (by omega) (t : Int) N 0 X 1 (by omega) (by omega) (by omega) ⟨_, q⟩ (fun j hj => by omega)
  have x380 := xr 380 (by decide) (by decide)
  rw [x380] at r3 r4
  refine ⟨s', ?_, fun r h1 h2 => (r2 r h1 h2).trans (xr r h1 h2), r3, r4⟩
  unfold f_X5_findWay
  rw [show f_J7_fill_53178 N s (379 + 2) 20 (-1) = some s1 from a1, Option.bind_some, if_pos (by omega), Int.toNat_natCast, bl_eq, bl_eq]
  rw [show upm (upm s1 (379 + 2) f f) (379 + 3) 0 f = X from hX.symm, show f_X5_findWay_28 N 379 (g 0) t N X 1 0 = some s' from r1, Option.bind_some, if_pos (by omega), Int.toNat_natCast]
  show (if s' 381 t = -1 then _ else _) = _
  by_cases e : s' 381 t = -1
  · rw [if_pos e, if_pos e]
  · rw [if_neg e, if_neg e]
end FW
