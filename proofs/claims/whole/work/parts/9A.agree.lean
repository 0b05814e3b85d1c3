/-! agreement of class and model, part 9A -/
/-! the class's rounds -/
def FRA (a : Nat) (σ s : Sm) : Prop := ∀ r, r < a + 1 ∨ a + 4 < r → s r = σ r
def RS (g A R A' R' : Ga) (k : Nat) : Prop := ∀ i : Nat, i < k → ∃ A1 R2 : Ga, (∀ o, A' o ≤ A1 o ∧ A1 o ≤ A o ∧ R' o ≤ R2 o ∧ R2 o ≤ R o) ∧ (∀ R1 o x y, wEg g i A1 R1 o x y → A' o ≤ x ∧ R' o ≤ y) ∧ (∀ A2 o x y, rEg g i A2 R2 o x y → A' o ≤ x ∧ R' o ≤ y)
def cor (g A R C D : Ga) : Int := ctk (fun i => A i = C i) (g 0).toNat + ctk (fun i => R i = D i) (g 0).toNat
section CB
variable {σ s : Sm} {g A R A' R' C D : Ga} {K m0 : Int} {N a f : Nat}
theorem FRA.refl (a : Nat) (σ : Sm) : FRA a σ σ := fun _ _ => rfl
theorem FRA.trans {υ : Sm} (h : FRA a σ s) (h2 : FRA a s υ) : FRA a σ υ := fun r h3 => (h2 r h3).trans (h r h3)
theorem FRA.of (h : FR a σ s) : FRA a σ s := fun r h3 => h r (by omega) (by omega)
theorem FRA.nr (h : FRA a σ s) (ha : 366 ≤ a) (n : NR 1 σ g) (G : GI K g) (R : RW 1 σ) : NR 1 s g := n.same R G.tk.2 G.ln.2 (fun r h1 h2 => h r (by omega))
theorem c_begin (σ : Sm) (hN : 16 < N) (a : Nat) (hf : f < 10) (m0 : Int) : ∃ s, f_X1_begin N σ a f m0 = some s ∧ FRA a σ s ∧ ∀ i : Nat, i < 10 → s (a + 1) i = (if i = f then m0 else 1000000000) ∧ s (a + 2) i = (if i = f then m0 else 1000000000) ∧ s (a + 3) i = 0 ∧ s (a + 4) i = 0 := by
  obtain ⟨v, ⟨p1, p2⟩, e⟩ := lp_inv (fun n (v : Sm) k => f_X1_begin_2 a f m0 n v k) id (fun k v => FRA a σ v ∧ ∀ i : Nat, i < k → v (a + 1) i = 1000000000 ∧ v (a + 2) i = 1000000000 ∧ v (a + 3) i = 0 ∧ v (a + 4) i = 0) 10 (fun n v hP => by
      show f_X1_begin_2 a f m0 (n + 1) v ((10 : Nat) : Int) = _
      rw [f_X1_begin_2, if_pos (by omega)]; rfl) (fun n k v hk hP => by
      obtain ⟨p1, p2⟩ := hP
      refine ⟨upm (upm (upm (upm v (a + 1) k 1000000000) (a + 2) k 1000000000) (a + 3) k 0) (a + 4) k 0, ⟨fun r h1 => ?_, fun i hi => ?_⟩, ?_⟩
      · rw [upm_role (by omega), upm_role (by omega), upm_role (by omega), upm_role (by omega)]; exact p1 r h1
      · by_cases e : i = k
        · subst e
          refine ⟨?_, ?_, ?_, ?_⟩
          · rw [upm_role (by omega), upm_role (by omega), upm_role (by omega), upm_same]
          · rw [upm_role (by omega), upm_role (by omega), upm_same]
          · rw [upm_role (by omega), upm_same]
          · rw [upm_same]
        · obtain ⟨q1, q2, q3, q4⟩ := p2 i (by omega)
          refine ⟨?_, ?_, ?_, ?_⟩
          · rw [upm_cell e, upm_cell e, upm_cell e, upm_cell e]; exact q1
          · rw [upm_cell e, upm_cell e, upm_cell e, upm_cell e]; exact q2
          · rw [upm_cell e, upm_cell e, upm_cell e, upm_cell e]; exact q3
          · rw [upm_cell e, upm_cell e, upm_cell e, upm_cell e]; exact q4
      · show f_X1_begin_2 a f m0 (n + 1) v (k : Int) = f_X1_begin_2 a f m0 n _ ((k + 1 : Nat) : Int)
        rw [f_X1_begin_2, if_neg (by omega), if_pos (by omega)]
        simp only [bl_eq, Int.toNat_natCast]; rfl) N 0 σ (by omega) (by omega) ⟨FRA.refl _ _, fun i hi => by omega⟩
  unfold f_X1_begin
  rw [show f_X1_begin_2 a f m0 N σ 0 = some v from e, Option.bind_some, if_pos (by omega)]
  simp only [bl_eq, Int.toNat_natCast]
  refine ⟨_, rfl, fun r h1 => ?_, fun i hi => ?_⟩
  · rw [upm_role (by omega), upm_role (by omega)]; exact p1 r h1
  · obtain ⟨q1, q2, q3, q4⟩ := p2 i hi
    by_cases e : i = f
    · subst e
      rw [if_pos rfl, upm_role (by omega), upm_same, upm_same, upm_role (by omega), upm_role (by omega), upm_role (by omega), upm_role (by omega)]
      exact ⟨rfl, rfl, q3, q4⟩
    · rw [if_neg e, upm_cell e, upm_cell e, upm_cell e, upm_cell e, upm_cell e, upm_cell e, upm_cell e, upm_cell e]
      exact ⟨q1, q2, q3, q4⟩
theorem RS.refl (g A R : Ga) : RS g A R A R 0 := fun i hi => by omega
theorem wEg_R {g A R R1 : Ga} {s o : Nat} {x y : Int} (h : wEg g s A R o x y) : wEg g s A R1 o x y := h
theorem rEg_A {g A A1 R : Ga} {s o : Nat} {x y : Int} (h : rEg g s A R o x y) : rEg g s A1 R o x y := h
/-- one round -/
theorem c_round (n : NR 1 σ g) (G : GI K g) (R : RW 1 σ) (ha : 366 ≤ a) (hN : 16 < N) (hm : 0 ≤ m0 ∧ m0 ≤ 9700000) (j : JV g f m0 (σ (a + 1)) (σ (a + 2))) (x5 : Int) : ∃ v : Sm × Int, f_X1_searchRounds_30 N a 1 x5 N σ 0 0 = some v ∧ FR a σ v.1 ∧ RXs (Eg g) (σ (a + 1)) (σ (a + 2)) (v.1 (a + 1)) (v.1 (a + 2)) ∧ RS g (σ (a + 1)) (σ (a + 2)) (v.1 (a + 1)) (v.1 (a + 2)) (g 0).toNat ∧ (v.2 = 0 → v.1 = σ) := by
  have hs := G.st
  obtain ⟨z, hz⟩ := Int.eq_ofNat_of_zero_le hs.1
  obtain ⟨v, ⟨p1, p2, p3, p4, p5⟩, e⟩ := lp_inv (fun n (v : Sm × Int) k => f_X1_searchRounds_30 N a 1 x5 n v.1 v.2 k) id (fun k v => FR a σ v.1 ∧ RXs (Eg g) (σ (a + 1)) (σ (a + 2)) (v.1 (a + 1)) (v.1 (a + 2)) ∧ RS g (σ (a + 1)) (σ (a + 2)) (v.1 (a + 1)) (v.1 (a + 2)) k ∧ (v.2 = 0 ∨ v.2 = 1) ∧ (v.2 = 0 → v.1 = σ)) z (fun m v hP => by
      have n' := hP.1.nr ha n G R
      show f_X1_searchRounds_30 N a 1 x5 (m + 1) v.1 v.2 (z : Int) = _
      rw [f_X1_searchRounds_30, n'.st, if_pos (by omega)]; rfl) (fun m k v hk hP => by
      obtain ⟨p1, p2, p3, p4, p5⟩ := hP
      have n' := p1.nr ha n G R
      have R' : RW 1 v.1 := R.same (p1 7 (by omega) (by omega))
      have jv := p2.jv G hm j
      have hks : (k : Int) < g 0 := by omega
      obtain ⟨s1, f1, q1, q2, q3, q4, q5, q6⟩ := c_walkOn (N := N) n' G R' ha hN hm jv hks
      have q3' := q3.mono (E' := Eg g) (fun A R o a r h => ⟨k, Or.inl h⟩)
      have n'' := q2.nr ha n' G R'
      have R'' : RW 1 s1 := R'.same (q2 7 (by omega) (by omega))
      have jv1 := q3'.jv G hm jv
      obtain ⟨s2, f2, r1, r2, r3, r4, r5, r6⟩ := c_rideOn (N := N) n'' G R'' ha hN hm jv1 hks
      have r3' := r3.mono (E' := Eg g) (fun A R o a r h => ⟨k, Or.inr h⟩)
      have l1 := q3'.le
      have l2 := r3'.le
      have l0 := p2.le
      refine ⟨(s2, if v.2 = 0 ∧ f1 = 0 ∧ f2 = 0 then 0 else 1), ⟨(p1.trans q2).trans r2, (p2.trans q3').trans r3', fun i hi => ?_, ?_, fun q => ?_⟩, ?_⟩
      · by_cases e : i = k
        · subst e
          refine ⟨v.1 (a + 1), s1 (a + 2), fun o => ?_, fun R1 o x y h => ?_, fun A2 o x y h => r4 o x y (rEg_A h)⟩
          · have h1 := l1 o
            have h2 := l2 o
            have h3 := l0 o
            dsimp only
            omega
          · have h1 := q4 o x y (wEg_R h)
            have h2 := l2 o
            dsimp only
            omega
        · obtain ⟨A1, R2, t1, t2, t3⟩ := p3 i (by omega)
          refine ⟨A1, R2, fun o => ?_, fun R1 o x y h => ?_, fun A2 o x y h => ?_⟩
          · have h1 := l1 o
            have h2 := l2 o
            have h3 := t1 o
            dsimp only
            omega
          · have h1 := l1 o
            have h2 := l2 o
            have h3 := t2 R1 o x y h
            dsimp only
            omega
          · have h1 := l1 o
            have h2 := l2 o
            have h3 := t3 A2 o x y h
            dsimp only
            omega
      · dsimp only
        split
        · exact Or.inl rfl
        · exact Or.inr rfl
      · dsimp only at q ⊢
        split at q
        · rename_i w
          rw [r6 w.2.2, q6 w.2.1, p5 w.1]
        · cases q
      · show f_X1_searchRounds_30 N a 1 x5 (m + 1) v.1 v.2 (k : Int) = f_X1_searchRounds_30 N a 1 x5 m s2 (if v.2 = 0 ∧ f1 = 0 ∧ f2 = 0 then 0 else 1) ((k + 1 : Nat) : Int)
        rw [f_X1_searchRounds_30, n'.st, if_neg (by omega), q1, Option.bind_some]
        dsimp only
        rw [r1, Option.bind_some]
        dsimp only
        by_cases e1 : v.2 = 0
        · rw [if_pos e1]
          by_cases e2 : f1 = 0
          · rw [if_pos e2]
            by_cases e3 : f2 = 0
            · rw [if_pos e3, if_pos ⟨e1, e2, e3⟩]; rfl
            · rw [if_neg e3, if_neg (fun w => e3 w.2.2)]; rfl
          · rw [if_neg e2, if_neg (fun w => e2 w.2.1)]; rfl
        · rw [if_neg e1, if_neg (fun w => e1 w.1)]; rfl) N 0 (σ, 0) (by omega) (by omega) ⟨FR.refl _ _, RXs.refl _ _ _, RS.refl _ _ _, Or.inl rfl, fun _ => rfl⟩
  refine ⟨v, e, p1, p2, ?_, p5⟩
  rw [show (g 0).toNat = z by omega]; exact p3
/-- a round that changes nothing: all is found -/
theorem RS.cl (h : RS g A R A R (g 0).toNat) : clsd g A R := by
  intro o x y hE
  obtain ⟨i, hE | hE⟩ := hE
  · have hi := hE.1
    obtain ⟨A1, R2, t1, t2, t3⟩ := h i (by omega)
    have e : A1 = A := by funext o; have := t1 o; omega
    subst e
    exact t2 R o x y hE
  · have hi := hE.1
    obtain ⟨A1, R2, t1, t2, t3⟩ := h i (by omega)
    have e : R2 = R := by funext o; have := t1 o; omega
    subst e
    exact t3 A o x y hE
theorem wEg_at {g A R A1 R1 : Ga} {s o : Nat} {x y : Int} (h : wEg g s A R o x y) (e : A1 s = A s) : wEg g s A1 R1 o x y := by
  obtain ⟨h1, h2, h3, h4, h5, h6, h7, h8⟩ := h
  exact ⟨h1, h2, h3, h4, h5, by rw [e]; exact h6, by rw [e]; exact h7, h8⟩
theorem rEg_at {g A R A1 R1 : Ga} {s o : Nat} {x y : Int} (h : rEg g s A R o x y) (e : R1 s = R s) : rEg g s A1 R1 o x y := by
  obtain ⟨h1, h2, h3, h4, h5, c, p, l, hc, hr, hp, hs, hl, hl2, ho, ha, hr2⟩ := h
  exact ⟨h1, h2, h3, h4, by rw [e]; exact h5, c, p, l, hc, hr, hp, hs, hl, hl2, ho, by rw [e]; exact ha, hr2⟩
theorem ctk_eq {p q : Nat → Bool} (n : Nat) (h : ∀ k, k < n → p k = true → q k = true) (he : ctk q n ≤ ctk p n) {k : Nat} (hk : k < n) (hq : q k = true) : p k = true := by
  cases e : p k with
  | true => rfl
  | false => have := ctk_lt n h hk e hq; omega
theorem cor_rng (g A R C D : Ga) (G : GI K g) : 0 ≤ cor g A R C D ∧ cor g A R C D ≤ 20 := by
  have h1 := ctk_rng (fun i => decide (A i = C i)) (g 0).toNat
  have h2 := ctk_rng (fun i => decide (R i = D i)) (g 0).toNat
  have := G.st
  unfold cor; omega
/-- a round makes at least one more minute right -/
theorem cor_up (G : GI K g) (hm : 0 ≤ m0 ∧ m0 ≤ 9700000) (j : JV g f m0 A R) (j' : JV g f m0 A' R') (hle : ∀ i, A' i ≤ A i ∧ R' i ≤ R i) (hs : RS g A R A' R' (g 0).toNat) (jc : JV g f m0 C D) (hc : clsd g C D) : cor g A R C D + 1 ≤ cor g A' R' C D ∨ ∀ i : Nat, (i : Int) < g 0 → A i = C i ∧ R i = D i := by
  have bc := fun i hi => jc.bd G hm (i := i) hi
  have dm := j.dm C D hc (fun i hi => ⟨(bc i hi).2.1, (bc i hi).2.2.2.1⟩) jc.ff.1 jc.ff.2
  have dm' := j'.dm C D hc (fun i hi => ⟨(bc i hi).2.1, (bc i hi).2.2.2.1⟩) jc.ff.1 jc.ff.2
  have b0 := fun i hi => j.bd G hm (i := i) hi
  have u1 : ∀ k : Nat, k < (g 0).toNat → decide (A k = C k) = true → decide (A' k = C k) = true := fun k hk h => by
    simp only [decide_eq_true_eq] at h ⊢
    have := dm' k (by omega)
    have := hle k
    omega
  have u2 : ∀ k : Nat, k < (g 0).toNat → decide (R k = D k) = true → decide (R' k = D k) = true := fun k hk h => by
    simp only [decide_eq_true_eq] at h ⊢
    have := dm' k (by omega)
    have := hle k
    omega
  have m1 := ctk_le (p := fun k => decide (A k = C k)) (q := fun k => decide (A' k = C k)) (g 0).toNat u1
  have m2 := ctk_le (p := fun k => decide (R k = D k)) (q := fun k => decide (R' k = D k)) (g 0).toNat u2
  by_cases hlt : cor g A R C D + 1 ≤ cor g A' R' C D
  · exact Or.inl hlt
  · right
    unfold cor at hlt
    have k1 : ∀ k : Nat, (k : Int) < g 0 → A' k = C k → A k = C k := fun k hk h => by
      have := ctk_eq (p := fun k => decide (A k = C k)) (q := fun k => decide (A' k = C k)) (g 0).toNat u1 (by omega) (k := k) (by omega) (by simpa using h)
      simpa using this
    have k2 : ∀ k : Nat, (k : Int) < g 0 → R' k = D k → R k = D k := fun k hk h => by
      have := ctk_eq (p := fun k => decide (R k = D k)) (q := fun k => decide (R' k = D k)) (g 0).toNat u2 (by omega) (k := k) (by omega) (by simpa using h)
      simpa using this
    have main : ∀ v : Nat, (∀ i : Nat, (i : Int) < g 0 → C i ≤ v → A i = C i) ∧ (∀ i : Nat, (i : Int) < g 0 → D i ≤ v → R i = D i) := by
      intro v
      induction v with
      | zero =>
        have src : ∀ (o : Nat) (x y : Int), Eg g C D o x y → 1 ≤ x ∧ 1 ≤ y := fun o x y hE => by
          obtain ⟨s, hE | hE⟩ := hE
          · have h1 := wEg_b G hE
            have h2 := bc s hE.1
            omega
          · have h2 := bc s hE.1
            have h3 := hE.2.2.2.2.1
            have h1 := rEg_b G hE (by omega)
            omega
        refine ⟨fun i hi hv => ?_, fun i hi hv => ?_⟩
        · have := bc i hi
          rcases jc.sa i hi with h | ⟨rfl, h⟩ | ⟨x, y, h1, h2⟩
          · omega
          · have := j.ff; have := dm i hi; omega
          · have := src i x y h1; omega
        · have := bc i hi
          rcases jc.sr i hi with h | ⟨rfl, h⟩ | ⟨x, y, h1, h2⟩
          · omega
          · have := j.ff; have := dm i hi; omega
          · have := src i x y h1; omega
      | succ v ih =>
        obtain ⟨ih1, ih2⟩ := ih
        have src : ∀ (o : Nat) (x y : Int), (x ≤ (v : Int) + 1 ∨ y ≤ (v : Int) + 1) → Eg g C D o x y → A' o ≤ x ∧ R' o ≤ y := fun o x y hv hE => by
          obtain ⟨s, hE | hE⟩ := hE
          · have h1 := wEg_b G hE
            have h2 := bc s hE.1
            have hss := hE.1
            have h3 := ih1 s hE.1 (by omega)
            obtain ⟨A1, R2, t1, t2, t3⟩ := hs s (by omega)
            have t := t1 s
            have d := dm' s hE.1
            exact t2 R o x y (wEg_at hE (by omega))
          · have h2 := bc s hE.1
            have h4 := hE.2.2.2.2.1
            have h1 := rEg_b G hE (by omega)
            have hss := hE.1
            have h3 := ih2 s hE.1 (by omega)
            obtain ⟨A1, R2, t1, t2, t3⟩ := hs s (by omega)
            have t := t1 s
            have d := dm' s hE.1
            exact t3 A o x y (rEg_at hE (by omega))
        refine ⟨fun i hi hv => ?_, fun i hi hv => ?_⟩
        · have b1 := bc i hi
          have b2 := b0 i hi
          have d1 := dm i hi
          have d2 := dm' i hi
          rcases jc.sa i hi with h | ⟨rfl, h⟩ | ⟨x, y, h1, h2⟩
          · omega
          · have := j.ff; omega
          · have := src i x y (by omega) h1
            exact k1 i hi (by omega)
        · have b1 := bc i hi
          have b2 := b0 i hi
          have d1 := dm i hi
          have d2 := dm' i hi
          rcases jc.sr i hi with h | ⟨rfl, h⟩ | ⟨x, y, h1, h2⟩
          · omega
          · have := j.ff; omega
          · have := src i x y (by omega) h1
            exact k2 i hi (by omega)
    intro i hi
    have := bc i hi
    exact ⟨(main 1000000000).1 i hi (by omega), (main 1000000000).2 i hi (by omega)⟩
/-- the rounds of the class -/
theorem c_rounds (G : GI K g) (ha : 366 ≤ a) (hN : 16 < N) (hm : 0 ≤ m0 ∧ m0 ≤ 9700000) (jc : JV g f m0 C D) (hc : clsd g C D) : ∀ (n r : Nat) (σ : Sm) (x4 : Int), r ≤ 21 → 21 - r < n → NR 1 σ g → RW 1 σ → JV g f m0 (σ (a + 1)) (σ (a + 2)) → (x4 = 0 → clsd g (σ (a + 1)) (σ (a + 2))) → ((r : Int) ≤ cor g (σ (a + 1)) (σ (a + 2)) C D ∨ ∀ i : Nat, (i : Int) < g 0 → σ (a + 1) i = C i ∧ σ (a + 2) i = D i) → ∃ s, f_X1_searchRounds_12 N a 1 n σ x4 r = some s ∧ FR a σ s ∧ JV g f m0 (s (a + 1)) (s (a + 2)) ∧ ∀ i : Nat, (i : Int) < g 0 → s (a + 1) i = C i ∧ s (a + 2) i = D i := by
  intro n
  induction n with
  | zero => intro r σ x4 _ h; omega
  | succ n ih =>
    intro r σ x4 hr hn nr R j hz hcr
    rw [f_X1_searchRounds_12]
    by_cases e : 20 < (r : Int)
    · rw [if_pos e]
      refine ⟨σ, rfl, FR.refl _ _, j, ?_⟩
      rcases hcr with h | h
      · have := cor_rng g (σ (a + 1)) (σ (a + 2)) C D G
        omega
      · exact h
    · rw [if_neg e]
      by_cases e2 : x4 = 0
      · rw [if_pos e2]
        exact ⟨σ, rfl, FR.refl _ _, j, fun i hi => JV.uniq G hm j (hz e2) jc hc hi⟩
      · rw [if_neg e2]
        obtain ⟨v, q1, q2, q3, q4, q5⟩ := c_round (N := N) nr G R ha hN hm j (r : Int)
        rw [q1, Option.bind_some]
        have jv := q3.jv G hm j
        have hup := cor_up G hm j jv q3.le q4 jc hc
        obtain ⟨s, t1, t2, t3⟩ := ih (r + 1) v.1 v.2 (by omega) (by omega) (q2.nr ha nr G R) (R.same (q2 7 (by omega) (by omega))) jv (fun h => by
          have := q5 h
          rw [this] at q4 ⊢
          exact q4.cl) (by
          have d := fun (i : Nat) (hi : (i : Int) < g 0) => jv.dm C D hc (fun i hi => ⟨(jc.bd G hm hi).2.1, (jc.bd G hm hi).2.2.2.1⟩) jc.ff.1 jc.ff.2 i hi
          have keep : (∀ i : Nat, (i : Int) < g 0 → σ (a + 1) i = C i ∧ σ (a + 2) i = D i) → ∀ i : Nat, (i : Int) < g 0 → v.1 (a + 1) i = C i ∧ v.1 (a + 2) i = D i := fun h i hi => by
            have h1 := h i hi
            have h2 := q3.le i
            have h3 := d i hi
            omega
          rcases hup with h | h
          · rcases hcr with h2 | h2
            · left; omega
            · exact Or.inr (keep h2)
          · exact Or.inr (keep h))
        refine ⟨s, ?_, q2.trans t2, t3⟩
        exact t1
theorem JV.ini (G : GI K g) (hm : 0 ≤ m0 ∧ m0 ≤ 9700000) (hf : (f : Int) < g 0) {s : Sm} (h : ∀ i : Nat, i < 10 → s (a + 1) i = (if i = f then m0 else 1000000000) ∧ s (a + 2) i = (if i = f then m0 else 1000000000) ∧ s (a + 3) i = 0 ∧ s (a + 4) i = 0) : JV g f m0 (s (a + 1)) (s (a + 2)) := by
  have := G.st
  exact JV.init G hm hf (fun i hi => (h i (by omega)).1) (fun i hi => (h i (by omega)).2.1)
theorem c_searchRounds (n : NR 1 σ g) (G : GI K g) (R : RW 1 σ) (ha : 366 ≤ a) (hN : 30 < N) (hm : 0 ≤ m0 ∧ m0 ≤ 9700000) (hf : (f : Int) < g 0) (jc : JV g f m0 C D) (hc : clsd g C D) : ∃ s, f_X1_searchRounds N σ a 1 f m0 = some s ∧ FRA a σ s ∧ JV g f m0 (s (a + 1)) (s (a + 2)) ∧ ∀ i : Nat, (i : Int) < g 0 → s (a + 1) i = C i ∧ s (a + 2) i = D i := by
  have hs := G.st
  obtain ⟨s1, b1, b2, b3⟩ := c_begin (N := N) (f := f) σ (by omega) a (by omega) m0
  obtain ⟨s2, d1, d2, d3, d4⟩ := c_rounds (N := N) G ha (by omega) hm jc hc N 0 s1 1 (by omega) (by omega) (b2.nr ha n G R) (R.same (b2 7 (by omega))) (JV.ini G hm hf b3) (fun h => by cases h) (Or.inl (cor_rng _ _ _ _ _ G).1)
  refine ⟨s2, ?_, b2.trans (FRA.of d2), d3, d4⟩
  unfold f_X1_searchRounds
  rw [b1, Option.bind_some, show f_X1_searchRounds_12 N a 1 N s1 1 0 = some s2 from d1]; rfl
end CB
