/-! agreement of class and model, part 9B -/
/-! the class's search for the earliest -/
def DJ (g : Ga) (f : Nat) (m0 : Int) (a : Nat) (s : Sm) (M : Int) : Prop := (JV g f m0 (s (a + 1)) (s (a + 2))) ∧ (∀ i : Nat, (i : Int) < g 0 → s (a + 3) i ≠ 0 → s (a + 1) i ≤ M) ∧ (∀ i : Nat, (i : Int) < g 0 → s (a + 3) i = 0 → M ≤ s (a + 1) i) ∧ (∀ i : Nat, (i : Int) < g 0 → s (a + 4) i ≠ 0 → s (a + 2) i ≤ M) ∧ (∀ i : Nat, (i : Int) < g 0 → s (a + 4) i = 0 → M ≤ s (a + 2) i) ∧ (∀ i : Nat, (i : Int) < g 0 → s (a + 3) i ≠ 0 → ∀ o x y, wEg g i (s (a + 1)) (s (a + 2)) o x y → s (a + 1) o ≤ x ∧ s (a + 2) o ≤ y) ∧ (∀ i : Nat, (i : Int) < g 0 → s (a + 4) i ≠ 0 → ∀ o x y, rEg g i (s (a + 1)) (s (a + 2)) o x y → s (a + 1) o ≤ x ∧ s (a + 2) o ≤ y)
theorem DJ.jv {g : Ga} {f : Nat} {m0 : Int} {a : Nat} {s : Sm} {M : Int} (h : DJ g f m0 a s M) : JV g f m0 (s (a + 1)) (s (a + 2)) := h.1
theorem DJ.wl {g : Ga} {f : Nat} {m0 : Int} {a : Nat} {s : Sm} {M : Int} (h : DJ g f m0 a s M) : ∀ i : Nat, (i : Int) < g 0 → s (a + 3) i ≠ 0 → s (a + 1) i ≤ M := h.2.1
theorem DJ.wg {g : Ga} {f : Nat} {m0 : Int} {a : Nat} {s : Sm} {M : Int} (h : DJ g f m0 a s M) : ∀ i : Nat, (i : Int) < g 0 → s (a + 3) i = 0 → M ≤ s (a + 1) i := h.2.2.1
theorem DJ.rl {g : Ga} {f : Nat} {m0 : Int} {a : Nat} {s : Sm} {M : Int} (h : DJ g f m0 a s M) : ∀ i : Nat, (i : Int) < g 0 → s (a + 4) i ≠ 0 → s (a + 2) i ≤ M := h.2.2.2.1
theorem DJ.rg {g : Ga} {f : Nat} {m0 : Int} {a : Nat} {s : Sm} {M : Int} (h : DJ g f m0 a s M) : ∀ i : Nat, (i : Int) < g 0 → s (a + 4) i = 0 → M ≤ s (a + 2) i := h.2.2.2.2.1
theorem DJ.ws {g : Ga} {f : Nat} {m0 : Int} {a : Nat} {s : Sm} {M : Int} (h : DJ g f m0 a s M) : ∀ i : Nat, (i : Int) < g 0 → s (a + 3) i ≠ 0 → ∀ o x y, wEg g i (s (a + 1)) (s (a + 2)) o x y → s (a + 1) o ≤ x ∧ s (a + 2) o ≤ y := h.2.2.2.2.2.1
theorem DJ.rs {g : Ga} {f : Nat} {m0 : Int} {a : Nat} {s : Sm} {M : Int} (h : DJ g f m0 a s M) : ∀ i : Nat, (i : Int) < g 0 → s (a + 4) i ≠ 0 → ∀ o x y, rEg g i (s (a + 1)) (s (a + 2)) o x y → s (a + 1) o ≤ x ∧ s (a + 2) o ≤ y := h.2.2.2.2.2.2
theorem DJ.mk {g : Ga} {f : Nat} {m0 : Int} {a : Nat} {s : Sm} {M : Int} (jv9 : JV g f m0 (s (a + 1)) (s (a + 2))) (wl9 : ∀ i : Nat, (i : Int) < g 0 → s (a + 3) i ≠ 0 → s (a + 1) i ≤ M) (wg9 : ∀ i : Nat, (i : Int) < g 0 → s (a + 3) i = 0 → M ≤ s (a + 1) i) (rl9 : ∀ i : Nat, (i : Int) < g 0 → s (a + 4) i ≠ 0 → s (a + 2) i ≤ M) (rg9 : ∀ i : Nat, (i : Int) < g 0 → s (a + 4) i = 0 → M ≤ s (a + 2) i) (ws9 : ∀ i : Nat, (i : Int) < g 0 → s (a + 3) i ≠ 0 → ∀ o x y, wEg g i (s (a + 1)) (s (a + 2)) o x y → s (a + 1) o ≤ x ∧ s (a + 2) o ≤ y) (rs9 : ∀ i : Nat, (i : Int) < g 0 → s (a + 4) i ≠ 0 → ∀ o x y, rEg g i (s (a + 1)) (s (a + 2)) o x y → s (a + 1) o ≤ x ∧ s (a + 2) o ≤ y) : DJ g f m0 a s M := ⟨jv9, wl9, wg9, rl9, rg9, ws9, rs9⟩
def dcn (g : Ga) (a : Nat) (s : Sm) : Int := ctk (fun i => s (a + 3) i ≠ 0) (g 0).toNat + ctk (fun i => s (a + 4) i ≠ 0) (g 0).toNat
section DK
variable {σ s : Sm} {g A R A' R' C D : Ga} {K m0 M v : Int} {N a f w : Nat}
theorem c_earliest (σ : Sm) (r0 r1 : Nat) (hN : 16 < N) {S : Int} (hS : 0 ≤ S ∧ S ≤ 10) : ∃ r, f_X1_earliest N σ r0 20 r1 S = some r ∧ ((r = -1 ∧ ∀ i : Nat, (i : Int) < S → σ r1 i ≠ 0 ∨ 1000000000 ≤ σ r0 i) ∨ ∃ b : Nat, r = b ∧ (b : Int) < S ∧ σ r1 b = 0 ∧ σ r0 b < 1000000000 ∧ ∀ i : Nat, (i : Int) < S → σ r1 i = 0 → σ r0 b ≤ σ r0 i) := by
  obtain ⟨z, hz⟩ := Int.eq_ofNat_of_zero_le hS.1
  have al : ((alen 20 : Nat) : Int) = 10 := rfl
  obtain ⟨r, p, e⟩ := lp_inv (fun n (x : Int) k => f_X1_earliest_5 σ r0 20 r1 S n x k) id (fun k x => (x = -1 ∧ ∀ i : Nat, i < k → σ r1 i ≠ 0 ∨ 1000000000 ≤ σ r0 i) ∨ ∃ b : Nat, x = b ∧ b < k ∧ σ r1 b = 0 ∧ σ r0 b < 1000000000 ∧ ∀ i : Nat, i < k → σ r1 i = 0 → σ r0 b ≤ σ r0 i) z (fun n x hP => by
      show f_X1_earliest_5 σ r0 20 r1 S (n + 1) x (z : Int) = _
      rw [f_X1_earliest_5, if_pos (by omega)]; rfl) (fun n k x hk hP => by
      by_cases w : σ r1 k = 0 ∧ σ r0 k < 1000000000
      · rcases hP with ⟨h1, h2⟩ | ⟨b, h1, h2, h3, h4, h5⟩
        · refine ⟨(k : Int), Or.inr ⟨k, rfl, by omega, w.1, w.2, fun i hi h => ?_⟩, ?_⟩
          · by_cases e : i = k
            · subst e; omega
            · have := h2 i (by omega); omega
          · show f_X1_earliest_5 σ r0 20 r1 S (n + 1) x (k : Int) = f_X1_earliest_5 σ r0 20 r1 S n k ((k + 1 : Nat) : Int)
            rw [f_X1_earliest_5, if_neg (by omega), if_pos (by omega), Int.toNat_natCast, if_pos w.1, al, if_pos (by omega), if_neg (by omega), if_pos h1]; rfl
        · by_cases q : σ r0 b ≤ σ r0 k
          · refine ⟨x, Or.inr ⟨b, h1, by omega, h3, h4, fun i hi h => ?_⟩, ?_⟩
            · by_cases e : i = k
              · subst e; omega
              · exact h5 i (by omega) h
            · show f_X1_earliest_5 σ r0 20 r1 S (n + 1) x (k : Int) = f_X1_earliest_5 σ r0 20 r1 S n x ((k + 1 : Nat) : Int)
              rw [f_X1_earliest_5, if_neg (by omega), if_pos (by omega), Int.toNat_natCast, if_pos w.1, al, if_pos (by omega), if_neg (by omega), if_neg (by omega), if_pos (by omega), h1, Int.toNat_natCast, if_pos q]; rfl
          · refine ⟨(k : Int), Or.inr ⟨k, rfl, by omega, w.1, w.2, fun i hi h => ?_⟩, ?_⟩
            · by_cases e : i = k
              · subst e; omega
              · have := h5 i (by omega) h; omega
            · show f_X1_earliest_5 σ r0 20 r1 S (n + 1) x (k : Int) = f_X1_earliest_5 σ r0 20 r1 S n k ((k + 1 : Nat) : Int)
              rw [f_X1_earliest_5, if_neg (by omega), if_pos (by omega), Int.toNat_natCast, if_pos w.1, al, if_pos (by omega), if_neg (by omega), if_neg (by omega), if_pos (by omega), h1, Int.toNat_natCast, if_neg q]; rfl
      · refine ⟨x, ?_, ?_⟩
        · rcases hP with ⟨h1, h2⟩ | ⟨b, h1, h2, h3, h4, h5⟩
          · refine Or.inl ⟨h1, fun i hi => ?_⟩
            by_cases e : i = k
            · subst e; omega
            · exact h2 i (by omega)
          · refine Or.inr ⟨b, h1, by omega, h3, h4, fun i hi h => ?_⟩
            by_cases e : i = k
            · subst e; omega
            · exact h5 i (by omega) h
        · show f_X1_earliest_5 σ r0 20 r1 S (n + 1) x (k : Int) = f_X1_earliest_5 σ r0 20 r1 S n x ((k + 1 : Nat) : Int)
          rw [f_X1_earliest_5, if_neg (by omega), if_pos (by omega), Int.toNat_natCast]
          by_cases w1 : σ r1 k = 0
          · rw [if_pos w1, al, if_pos (by omega), if_pos (by omega)]; rfl
          · rw [if_neg w1]; rfl) N 0 (-1) (by omega) (by omega) (Or.inl ⟨rfl, fun i hi => by omega⟩)
  refine ⟨r, ?_, ?_⟩
  · unfold f_X1_earliest
    rw [show f_X1_earliest_5 σ r0 20 r1 S N (-1) 0 = some r from e]; rfl
  · rcases p with ⟨h1, h2⟩ | ⟨b, h1, h2, h3, h4, h5⟩
    · exact Or.inl ⟨h1, fun i hi => h2 i (by omega)⟩
    · exact Or.inr ⟨b, h1, by omega, h3, h4, fun i hi => h5 i (by omega)⟩
theorem RXs.lo {E : Ga → Ga → Nat → Int → Int → Prop} (h : RXs E A R A' R') {Z : Ga → Ga → Prop} (z0 : Z A R) (hz : ∀ X Y o x y, Z X Y → E X Y o x y → v + 1 ≤ x ∧ v + 1 ≤ y ∧ Z (rxA X o x) (rxA Y o y)) : Z A' R' ∧ ∀ i, (A' i = A i ∨ v + 1 ≤ A' i) ∧ (R' i = R i ∨ v + 1 ≤ R' i) := by
  refine h (fun X Y => Z X Y ∧ ∀ i, (X i = A i ∨ v + 1 ≤ X i) ∧ (Y i = R i ∨ v + 1 ≤ Y i)) (fun X Y o x y hp he => ?_) ⟨z0, fun i => ⟨Or.inl rfl, Or.inl rfl⟩⟩
  obtain ⟨h1, h2⟩ := hp
  obtain ⟨q1, q2, q3⟩ := hz X Y o x y h1 he
  refine ⟨q3, fun i => ?_⟩
  have h3 := h2 i
  by_cases e : i = o
  · subst e
    rw [rxA_same, rxA_same]
    constructor
    · split
      · right; omega
      · exact h3.1
    · split
      · right; omega
      · exact h3.2
  · rw [rxA_ne _ _ e, rxA_ne _ _ e]; exact h3
theorem RXs.loW (G : GI K g) (h : RXs (wEg g w) A R A' R') (hv : A w = v) : A' w = v ∧ ∀ i, (A' i = A i ∨ v + 1 ≤ A' i) ∧ (R' i = R i ∨ v + 1 ≤ R' i) :=
  h.lo (Z := fun X _ => X w = v) hv (fun X Y o x y hX hE => by
    have := wEg_b G hE
    refine ⟨by omega, by omega, ?_⟩
    by_cases e : w = o
    · subst e; rw [rxA_same, if_neg (by omega)]; exact hX
    · rw [rxA_ne _ _ e]; exact hX)
theorem RXs.loR (G : GI K g) (h : RXs (rEg g w) A R A' R') (hv : R w = v) (hb : 0 ≤ v ∧ v ≤ 10000000) : R' w = v ∧ ∀ i, (A' i = A i ∨ v + 1 ≤ A' i) ∧ (R' i = R i ∨ v + 1 ≤ R' i) :=
  h.lo (Z := fun _ Y => Y w = v) hv (fun X Y o x y hX hE => by
    have := rEg_b G hE (by omega)
    refine ⟨by omega, by omega, ?_⟩
    by_cases e : w = o
    · subst e; rw [rxA_same, if_neg (by omega)]; exact hX
    · rw [rxA_ne _ _ e]; exact hX)
/-- the next stop from which to walk -/
theorem dj_walk (n : NR 1 s g) (G : GI K g) (R : RW 1 s) (ha : 366 ≤ a) (hN : 16 < N) (hm : 0 ≤ m0 ∧ m0 ≤ 9700000) (d : DJ g f m0 a s M) (hw : (w : Int) < g 0) (h0 : s (a + 3) w = 0) (hn : s (a + 1) w < 1000000000) (h1 : ∀ i : Nat, (i : Int) < g 0 → s (a + 3) i = 0 → s (a + 1) w ≤ s (a + 1) i) (h2 : ∀ i : Nat, (i : Int) < g 0 → s (a + 4) i = 0 → s (a + 1) w ≤ s (a + 2) i) : ∃ (s' : Sm) (fl : Int), f_X1_walkOn N (upm s (a + 3) w 1) a 1 w = some (s', fl) ∧ FRA a s s' ∧ dcn g a s + 1 ≤ dcn g a s' ∧ ∃ M', DJ g f m0 a s' M' := by
  have e1 : upm s (a + 3) w 1 (a + 1) = s (a + 1) := upm_role (by omega)
  have e2 : upm s (a + 3) w 1 (a + 2) = s (a + 2) := upm_role (by omega)
  have fr0 : FRA a s (upm s (a + 3) w 1) := fun r h => upm_role (by omega)
  obtain ⟨s', fl, q1, q2, q3, q4, q5, q6⟩ := c_walkOn (N := N) (σ := upm s (a + 3) w 1) (m0 := m0) (f := f) (fr0.nr ha n G R) G (R.same (fr0 7 (by omega))) ha hN hm (by rw [e1, e2]; exact d.jv) hw
  rw [e1, e2] at q3 q4
  have w3 : s' (a + 3) = upf (s (a + 3)) w 1 := by rw [q2 _ (by omega) (by omega), upm_upf]
  have w4 : s' (a + 4) = s (a + 4) := by rw [q2 _ (by omega) (by omega), upm_role (by omega)]
  have jv := (q3.mono (E' := Eg g) (fun A R o a r h => ⟨w, Or.inl h⟩)).jv G hm d.jv
  obtain ⟨lw, lo⟩ := q3.loW G rfl
  have le := q3.le
  have hM := d.wg w hw h0
  have f3 : ∀ i, i ≠ w → s' (a + 3) i = s (a + 3) i := fun i hi => by rw [w3, upf_ne hi]
  have f3w : s' (a + 3) w = 1 := by rw [w3, upf_eq]
  have sA : ∀ i : Nat, (i : Int) < g 0 → s' (a + 3) i ≠ 0 → s' (a + 1) i = s (a + 1) i := fun i hi h => by
    by_cases e : i = w
    · subst e; exact lw
    · rw [f3 i e] at h
      have := d.wl i hi h
      have := le i
      have := (lo i).1
      omega
  have sR : ∀ i : Nat, (i : Int) < g 0 → s' (a + 4) i ≠ 0 → s' (a + 2) i = s (a + 2) i := fun i hi h => by
    rw [w4] at h
    have := d.rl i hi h
    have := le i
    have := (lo i).2
    omega
  refine ⟨s', fl, q1, fr0.trans (FRA.of q2), ?_, s (a + 1) w, DJ.mk jv ?_ ?_ ?_ ?_ ?_ ?_⟩
  · unfold dcn
    rw [w4]
    have := ctk_lt (p := fun i => decide (s (a + 3) i ≠ 0)) (q := fun i => decide (s' (a + 3) i ≠ 0)) (j := w) (g 0).toNat (fun k hk hp => by
      by_cases e : k = w
      · subst e; rw [f3w]; decide
      · rw [f3 k e]; exact hp) (by omega) (by simp [h0]) (by simp [f3w])
    omega
  · intro i hi h
    rw [sA i hi h]
    by_cases e : i = w
    · subst e; omega
    · rw [f3 i e] at h
      have := d.wl i hi h
      omega
  · intro i hi h
    have e : i ≠ w := fun e => by subst e; rw [f3w] at h; cases h
    rw [f3 i e] at h
    have := h1 i hi h
    have := (lo i).1
    omega
  · intro i hi h
    rw [sR i hi h]
    rw [w4] at h
    have := d.rl i hi h
    omega
  · intro i hi h
    rw [w4] at h
    have := h2 i hi h
    have := (lo i).2
    omega
  · intro i hi h o x y hE
    have hE' := wEg_at (A1 := s (a + 1)) (R1 := s (a + 2)) hE (sA i hi h).symm
    by_cases e : i = w
    · subst e; exact q4 o x y hE'
    · rw [f3 i e] at h
      have := d.ws i hi h o x y hE'
      have := le o
      omega
  · intro i hi h o x y hE
    have hE' := rEg_at (A1 := s (a + 1)) (R1 := s (a + 2)) hE (sR i hi h).symm
    rw [w4] at h
    have := d.rs i hi h o x y hE'
    have := le o
    omega
theorem dj_ride (n : NR 1 s g) (G : GI K g) (R : RW 1 s) (ha : 366 ≤ a) (hN : 16 < N) (hm : 0 ≤ m0 ∧ m0 ≤ 9700000) (d : DJ g f m0 a s M) (hw : (w : Int) < g 0) (h0 : s (a + 4) w = 0) (hn : s (a + 2) w < 1000000000) (h1 : ∀ i : Nat, (i : Int) < g 0 → s (a + 4) i = 0 → s (a + 2) w ≤ s (a + 2) i) (h2 : ∀ i : Nat, (i : Int) < g 0 → s (a + 3) i = 0 → s (a + 2) w ≤ s (a + 1) i) : ∃ (s' : Sm) (fl : Int), f_X1_rideOn N (upm s (a + 4) w 1) a 1 w = some (s', fl) ∧ FRA a s s' ∧ dcn g a s + 1 ≤ dcn g a s' ∧ ∃ M', DJ g f m0 a s' M' := by
  have e1 : upm s (a + 4) w 1 (a + 1) = s (a + 1) := upm_role (by omega)
  have e2 : upm s (a + 4) w 1 (a + 2) = s (a + 2) := upm_role (by omega)
  have fr0 : FRA a s (upm s (a + 4) w 1) := fun r h => upm_role (by omega)
  obtain ⟨s', fl, q1, q2, q3, q4, q5, q6⟩ := c_rideOn (N := N) (σ := upm s (a + 4) w 1) (m0 := m0) (f := f) (fr0.nr ha n G R) G (R.same (fr0 7 (by omega))) ha hN hm (by rw [e1, e2]; exact d.jv) hw
  rw [e1, e2] at q3 q4
  have w4 : s' (a + 4) = upf (s (a + 4)) w 1 := by rw [q2 _ (by omega) (by omega), upm_upf]
  have w3 : s' (a + 3) = s (a + 3) := by rw [q2 _ (by omega) (by omega), upm_role (by omega)]
  have jv := (q3.mono (E' := Eg g) (fun A R o a r h => ⟨w, Or.inr h⟩)).jv G hm d.jv
  have bw := d.jv.bd G hm hw
  obtain ⟨lw, lo⟩ := q3.loR G rfl (by omega)
  have le := q3.le
  have hM := d.rg w hw h0
  have f4 : ∀ i, i ≠ w → s' (a + 4) i = s (a + 4) i := fun i hi => by rw [w4, upf_ne hi]
  have f4w : s' (a + 4) w = 1 := by rw [w4, upf_eq]
  have sR : ∀ i : Nat, (i : Int) < g 0 → s' (a + 4) i ≠ 0 → s' (a + 2) i = s (a + 2) i := fun i hi h => by
    by_cases e : i = w
    · subst e; exact lw
    · rw [f4 i e] at h
      have := d.rl i hi h
      have := le i
      have := (lo i).2
      omega
  have sA : ∀ i : Nat, (i : Int) < g 0 → s' (a + 3) i ≠ 0 → s' (a + 1) i = s (a + 1) i := fun i hi h => by
    rw [w3] at h
    have := d.wl i hi h
    have := le i
    have := (lo i).1
    omega
  refine ⟨s', fl, q1, fr0.trans (FRA.of q2), ?_, s (a + 2) w, DJ.mk jv ?_ ?_ ?_ ?_ ?_ ?_⟩
  · unfold dcn
    rw [w3]
    have := ctk_lt (p := fun i => decide (s (a + 4) i ≠ 0)) (q := fun i => decide (s' (a + 4) i ≠ 0)) (j := w) (g 0).toNat (fun k hk hp => by
      by_cases e : k = w
      · subst e; rw [f4w]; decide
      · rw [f4 k e]; exact hp) (by omega) (by simp [h0]) (by simp [f4w])
    omega
  · intro i hi h
    rw [sA i hi h]
    rw [w3] at h
    have := d.wl i hi h
    omega
  · intro i hi h
    rw [w3] at h
    have := h2 i hi h
    have := (lo i).1
    omega
  · intro i hi h
    rw [sR i hi h]
    by_cases e : i = w
    · subst e; omega
    · rw [f4 i e] at h
      have := d.rl i hi h
      omega
  · intro i hi h
    have e : i ≠ w := fun e => by subst e; rw [f4w] at h; cases h
    rw [f4 i e] at h
    have := h1 i hi h
    have := (lo i).2
    omega
  · intro i hi h o x y hE
    have hE' := wEg_at (A1 := s (a + 1)) (R1 := s (a + 2)) hE (sA i hi h).symm
    rw [w3] at h
    have := d.ws i hi h o x y hE'
    have := le o
    omega
  · intro i hi h o x y hE
    have hE' := rEg_at (A1 := s (a + 1)) (R1 := s (a + 2)) hE (sR i hi h).symm
    by_cases e : i = w
    · subst e; exact q4 o x y hE'
    · rw [f4 i e] at h
      have := d.rs i hi h o x y hE'
      have := le o
      omega
theorem dj_end (d : DJ g f m0 a s M) (h1 : ∀ i : Nat, (i : Int) < g 0 → s (a + 3) i ≠ 0 ∨ 1000000000 ≤ s (a + 1) i) (h2 : ∀ i : Nat, (i : Int) < g 0 → s (a + 4) i ≠ 0 ∨ 1000000000 ≤ s (a + 2) i) : clsd g (s (a + 1)) (s (a + 2)) := by
  intro o x y hE
  obtain ⟨i, hE | hE⟩ := hE
  · rcases h1 i hE.1 with h | h
    · exact d.ws i hE.1 h o x y hE
    · have := hE.2.2.2.2.2.1; omega
  · rcases h2 i hE.1 with h | h
    · exact d.rs i hE.1 h o x y hE
    · have := hE.2.2.2.2.1; omega
theorem ctk_full {p : Nat → Bool} : ∀ n : Nat, (n : Int) ≤ ctk p n → ∀ k, k < n → p k = true := by
  intro n
  induction n with
  | zero => intro _ k h; omega
  | succ n ih =>
    intro h k hk
    have h1 := ctk_rng p n
    unfold ctk at h
    by_cases q : p n = true
    · rw [if_pos q] at h
      by_cases e : k = n
      · subst e; exact q
      · exact ih (by omega) k (by omega)
    · rw [if_neg q] at h; omega
theorem c_dij (G : GI K g) (ha : 366 ≤ a) (hN : 16 < N) (hm : 0 ≤ m0 ∧ m0 ≤ 9700000) : ∀ (n k : Nat) (s : Sm) (M : Int), k ≤ 20 → 20 - k < n → NR 1 s g → RW 1 s → DJ g f m0 a s M → (k : Int) ≤ dcn g a s → ∃ s', (f_X1_searchEarliest_9 N a 1 n s k = some (.inl s') ∨ f_X1_searchEarliest_9 N a 1 n s k = some (.inr s')) ∧ FRA a s s' ∧ JV g f m0 (s' (a + 1)) (s' (a + 2)) ∧ clsd g (s' (a + 1)) (s' (a + 2)) := by
  intro n
  have hs := G.st
  induction n with
  | zero => intro k s M _ h; omega
  | succ n ih =>
    intro k s M hk hn nr R d hc
    rw [f_X1_searchEarliest_9]
    by_cases e : 20 ≤ (k : Int)
    · rw [if_pos e]
      refine ⟨s, Or.inr rfl, FRA.refl _ _, d.jv, ?_⟩
      have c1 := ctk_rng (fun i => decide (s (a + 3) i ≠ 0)) (g 0).toNat
      have c2 := ctk_rng (fun i => decide (s (a + 4) i ≠ 0)) (g 0).toNat
      unfold dcn at hc
      refine dj_end d (fun i hi => Or.inl ?_) (fun i hi => Or.inl ?_)
      · have := ctk_full (p := fun i => decide (s (a + 3) i ≠ 0)) (g 0).toNat (by omega) i (by omega)
        simpa using this
      · have := ctk_full (p := fun i => decide (s (a + 4) i ≠ 0)) (g 0).toNat (by omega) i (by omega)
        simpa using this
    · rw [if_neg e]
      obtain ⟨u, u1, u2⟩ := c_earliest (N := N) s (a + 1) (a + 3) hN (S := g 0) hs
      obtain ⟨t, t1, t2⟩ := c_earliest (N := N) s (a + 2) (a + 4) hN (S := g 0) hs
      rw [nr.st, u1, Option.bind_some, t1, Option.bind_some]
      rcases u2 with ⟨rfl, u3⟩ | ⟨b, rfl, u3, u4, u5, u6⟩
      · rw [if_pos rfl]
        rcases t2 with ⟨rfl, t3⟩ | ⟨c, rfl, t3, t4, t5, t6⟩
        · rw [if_pos rfl]
          exact ⟨s, Or.inl rfl, FRA.refl _ _, d.jv, dj_end d u3 t3⟩
        · have cn : ¬ (c : Int) = -1 := by omega
          rw [if_neg cn, if_neg cn, if_pos rfl, if_pos (by omega), bl_eq, Int.toNat_natCast]
          obtain ⟨s', fl, q1, q2, q3, M', q4⟩ := dj_ride (N := N) nr G R ha hN hm d t3 t4 t5 t6 (fun i hi h => by have := u3 i hi; omega)
          rw [q1, Option.bind_some]
          obtain ⟨s2, r1, r2, r3⟩ := ih (k + 1) s' M' (by omega) (by omega) (q2.nr ha nr G R) (R.same (q2 7 (by omega))) q4 (by omega)
          exact ⟨s2, r1, q2.trans r2, r3⟩
      · have bn : ¬ (b : Int) = -1 := by omega
        rw [if_neg bn]
        rcases t2 with ⟨rfl, t3⟩ | ⟨c, rfl, t3, t4, t5, t6⟩
        · rw [if_pos rfl, if_pos (by omega), bl_eq, Int.toNat_natCast]
          obtain ⟨s', fl, q1, q2, q3, M', q4⟩ := dj_walk (N := N) nr G R ha hN hm d u3 u4 u5 u6 (fun i hi h => by have := t3 i hi; omega)
          rw [q1, Option.bind_some]
          obtain ⟨s2, r1, r2, r3⟩ := ih (k + 1) s' M' (by omega) (by omega) (q2.nr ha nr G R) (R.same (q2 7 (by omega))) q4 (by omega)
          exact ⟨s2, r1, q2.trans r2, r3⟩
        · have cn : ¬ (c : Int) = -1 := by omega
          rw [if_neg cn, if_neg bn, if_pos (by omega), if_pos (by omega), Int.toNat_natCast, Int.toNat_natCast]
          by_cases hl : s (a + 2) c < s (a + 1) b
          · rw [if_pos hl, bl_eq]
            obtain ⟨s', fl, q1, q2, q3, M', q4⟩ := dj_ride (N := N) nr G R ha hN hm d t3 t4 t5 t6 (fun i hi h => by have := u6 i hi h; omega)
            rw [q1, Option.bind_some]
            obtain ⟨s2, r1, r2, r3⟩ := ih (k + 1) s' M' (by omega) (by omega) (q2.nr ha nr G R) (R.same (q2 7 (by omega))) q4 (by omega)
            exact ⟨s2, r1, q2.trans r2, r3⟩
          · rw [if_neg hl, bl_eq]
            obtain ⟨s', fl, q1, q2, q3, M', q4⟩ := dj_walk (N := N) nr G R ha hN hm d u3 u4 u5 u6 (fun i hi h => by have := t6 i hi h; omega)
            rw [q1, Option.bind_some]
            obtain ⟨s2, r1, r2, r3⟩ := ih (k + 1) s' M' (by omega) (by omega) (q2.nr ha nr G R) (R.same (q2 7 (by omega))) q4 (by omega)
            exact ⟨s2, r1, q2.trans r2, r3⟩
theorem c_searchEarliest (n : NR 1 σ g) (G : GI K g) (R : RW 1 σ) (ha : 366 ≤ a) (hN : 30 < N) (hm : 0 ≤ m0 ∧ m0 ≤ 9700000) (hf : (f : Int) < g 0) : ∃ s, f_X1_searchEarliest N σ a 1 f m0 = some s ∧ FRA a σ s ∧ JV g f m0 (s (a + 1)) (s (a + 2)) ∧ clsd g (s (a + 1)) (s (a + 2)) := by
  have hs := G.st
  obtain ⟨s1, b1, b2, b3⟩ := c_begin (N := N) (f := f) σ (by omega) a (by omega) m0
  have jv := JV.ini G hm hf b3
  have c1 := ctk_rng (fun i => decide (s1 (a + 3) i ≠ 0)) (g 0).toNat
  have c2 := ctk_rng (fun i => decide (s1 (a + 4) i ≠ 0)) (g 0).toNat
  have d : DJ g f m0 a s1 0 := by
    refine DJ.mk jv (fun i hi h => absurd (b3 i (by omega)).2.2.1 h) (fun i hi h => ?_) (fun i hi h => absurd (b3 i (by omega)).2.2.2 h) (fun i hi h => ?_) (fun i hi h => absurd (b3 i (by omega)).2.2.1 h) (fun i hi h => absurd (b3 i (by omega)).2.2.2 h)
    · rw [(b3 i (by omega)).1]; split <;> omega
    · rw [(b3 i (by omega)).2.1]; split <;> omega
  obtain ⟨s2, d1, d2, d3, d4⟩ := c_dij (N := N) G ha (by omega) hm N 0 s1 0 (by omega) (by omega) (b2.nr ha n G R) (R.same (b2 7 (by omega))) d (by unfold dcn; omega)
  refine ⟨s2, ?_, b2.trans d2, d3, d4⟩
  unfold f_X1_searchEarliest
  rw [b1, Option.bind_some]
  rcases d1 with h | h
  · rw [show f_X1_searchEarliest_9 N a 1 N s1 0 = _ from h]; rfl
  · rw [show f_X1_searchEarliest_9 N a 1 N s1 0 = _ from h]; rfl
end DK
