/-! agreement of class and model, part 96 -/
/-! the class's relaxations -/
def RXs (E : Ga → Ga → Nat → Int → Int → Prop) (A R A' R' : Ga) : Prop := ∀ P : Ga → Ga → Prop, (∀ A R o a r, P A R → E A R o a r → P (rxA A o a) (rxA R o r)) → P A R → P A' R'
def FR (a : Nat) (σ s : Sm) : Prop := ∀ r, r ≠ a + 1 → r ≠ a + 2 → s r = σ r
section RX
variable {E E' : Ga → Ga → Nat → Int → Int → Prop} {A R A' R' A2 R2 : Ga} {o : Nat} {a r : Int}
theorem RXs.refl (E : Ga → Ga → Nat → Int → Int → Prop) (A R : Ga) : RXs E A R A R := fun _ _ h => h
theorem RXs.step (h : RXs E A R A' R') (e : E A' R' o a r) : RXs E A R (rxA A' o a) (rxA R' o r) := fun P hs h0 => hs _ _ _ _ _ (h P hs h0) e
theorem RXs.trans (h : RXs E A R A' R') (h2 : RXs E A' R' A2 R2) : RXs E A R A2 R2 := fun P hs h0 => h2 P hs (h P hs h0)
theorem RXs.mono (h : RXs E A R A' R') (hE : ∀ A R o a r, E A R o a r → E' A R o a r) : RXs E' A R A' R' := fun P hs h0 => h P (fun A R o a r hp he => hs A R o a r hp (hE _ _ _ _ _ he)) h0
theorem RXs.le (h : RXs E A R A' R') : ∀ i, A' i ≤ A i ∧ R' i ≤ R i := h (fun X Y => ∀ i, X i ≤ A i ∧ Y i ≤ R i) (fun X Y o a r hp _ i => ⟨Int.le_trans (rxA_le _ _ _ _) (hp i).1, Int.le_trans (rxA_le _ _ _ _) (hp i).2⟩) (fun i => ⟨Int.le_refl _, Int.le_refl _⟩)
end RX
section CR
variable {σ s : Sm} {g : Ga} {K m0 : Int} {N a f : Nat}
theorem RXs.jv {g : Ga} {A R A' R' : Ga} {K m0 : Int} {f : Nat} (h : RXs (Eg g) A R A' R') (G : GI K g) (hm : 0 ≤ m0 ∧ m0 ≤ 9700000) (j : JV g f m0 A R) : JV g f m0 A' R' := h (fun X Y => JV g f m0 X Y) (fun _ _ _ _ _ hp he => hp.rx G hm he) j
theorem FR.refl (a : Nat) (σ : Sm) : FR a σ σ := fun _ _ _ => rfl
theorem FR.trans {υ : Sm} (h : FR a σ s) (h2 : FR a s υ) : FR a σ υ := fun r h3 h4 => (h2 r h3 h4).trans (h r h3 h4)
theorem FR.nr (h : FR a σ s) (ha : 366 ≤ a) (n : NR 1 σ g) (G : GI K g) (R : RW 1 σ) : NR 1 s g := n.same R G.tk.2 G.ln.2 (fun r h1 h2 => h r (by omega) (by omega))
theorem c_reach (σ : Sm) (a : Nat) {o : Nat} (ho : o < 10) (x y : Int) : ∃ σ' fl, f_X1_reach σ a o x y = some (σ', fl) ∧ σ' (a + 1) = rxA (σ (a + 1)) o x ∧ σ' (a + 2) = rxA (σ (a + 2)) o y ∧ FR a σ σ' ∧ (fl = 0 ∨ fl = 1) ∧ (fl = 0 → σ' = σ) := by
  have mn : ∀ u v : Int, f_J9_min_7cf53 u v = some (if v < u then v else u) := fun u v => by
    unfold f_J9_min_7cf53; split <;> rfl
  have n1 : a + 2 ≠ a + 1 := by omega
  have e1 : ∀ v, upm σ (a + 1) o v (a + 2) o = σ (a + 2) o := fun v => by rw [upm_role n1]
  have u1 : ∀ v w, upm (upm σ (a + 1) o v) (a + 2) o w (a + 1) = upf (σ (a + 1)) o v := fun v w => by rw [upm_role (by omega), upm_upf]
  have u2 : ∀ v w, upm (upm σ (a + 1) o v) (a + 2) o w (a + 2) = upf (σ (a + 2)) o w := fun v w => by rw [upm_upf, upm_role n1]
  have uf : ∀ v w, FR a σ (upm (upm σ (a + 1) o v) (a + 2) o w) := fun v w r h1 h2 => by rw [upm_role h2, upm_role h1]
  unfold f_X1_reach rxA
  rw [if_pos (by omega)]
  simp only [mn, Option.bind_some, bl_eq, Int.toNat_natCast, e1]
  by_cases q1 : x < σ (a + 1) o
  · rw [if_pos q1]
    exact ⟨_, _, rfl, u1 _ _, u2 _ _, uf _ _, Or.inr rfl, fun h => by cases h⟩
  · rw [if_neg q1]
    by_cases q2 : σ (a + 2) o ≤ y
    · rw [if_pos q2]
      refine ⟨_, _, rfl, u1 _ _, u2 _ _, uf _ _, Or.inl rfl, fun _ => ?_⟩
      rw [if_neg q1, if_neg (by omega)]
      funext r i
      by_cases e : r = a + 2
      · subst e
        by_cases e2 : i = o
        · subst e2; rw [upm_same]
        · rw [upm_cell e2, upm_role n1]
      · rw [upm_role e]
        by_cases e3 : r = a + 1
        · subst e3
          by_cases e2 : i = o
          · subst e2; rw [upm_same]
          · rw [upm_cell e2]
        · rw [upm_role e3]
    · rw [if_neg q2]
      exact ⟨_, _, rfl, u1 _ _, u2 _ _, uf _ _, Or.inr rfl, fun h => by cases h⟩
theorem c_canWalk (h : NR 1 σ g) (G : GI K g) {i j : Nat} (hi : (i : Int) < g 0) (hj : (j : Int) < g 0) : f_X8_canWalk σ 1 i j = some (if 0 < wlk g i j ∧ g (13 + 2 * i) = 0 ∧ g (13 + 2 * j) = 0 then 1 else 0) := by
  have h0 := G.st
  unfold f_X8_canWalk
  rw [c_walkB h G (by omega) (by omega), Option.bind_some]
  have e : wlki g i j = wlk g i j := rfl
  have e1 : σ (1 + 2) (i : Int).toNat = g (13 + 2 * i) := h.cl i hi
  have e2 : σ (1 + 2) (j : Int).toNat = g (13 + 2 * j) := h.cl j hj
  rw [e, e1, e2]
  by_cases q1 : wlk g i j ≤ 0
  · rw [if_pos q1, if_neg (by omega)]
  · rw [if_neg q1, if_pos (by omega)]
    by_cases q2 : g (13 + 2 * i) = 0
    · rw [if_pos q2, if_pos (by omega)]
      by_cases q3 : g (13 + 2 * j) = 0
      · rw [if_pos q3, if_pos ⟨by omega, q2, q3⟩]
      · rw [if_neg q3, if_neg (fun z => q3 z.2.2)]
    · rw [if_neg q2, if_neg (fun z => q2 z.2.1)]
theorem c_walkOn (n : NR 1 σ g) (G : GI K g) (R : RW 1 σ) (ha : 366 ≤ a) (hN : 16 < N) (hm : 0 ≤ m0 ∧ m0 ≤ 9700000) (j : JV g f m0 (σ (a + 1)) (σ (a + 2))) {i : Nat} (hi : (i : Int) < g 0) : ∃ σ' fl, f_X1_walkOn N σ a 1 i = some (σ', fl) ∧ FR a σ σ' ∧ RXs (wEg g i) (σ (a + 1)) (σ (a + 2)) (σ' (a + 1)) (σ' (a + 2)) ∧ (∀ o x y, wEg g i (σ (a + 1)) (σ (a + 2)) o x y → σ' (a + 1) o ≤ x ∧ σ' (a + 2) o ≤ y) ∧ (fl = 0 ∨ fl = 1) ∧ (fl = 0 → σ' = σ) := by
  have h0 := G.st
  unfold f_X1_walkOn
  by_cases q : 1000000000 ≤ σ (a + 1) i
  · obtain ⟨m, rfl⟩ : ∃ k, N = k + 1 := ⟨N - 1, by omega⟩
    rw [f_X1_walkOn_5, if_pos (by omega), Int.toNat_natCast, if_pos q]
    refine ⟨σ, 0, rfl, FR.refl a σ, RXs.refl _ _ _, fun o x y h => ?_, Or.inl rfl, fun _ => rfl⟩
    have := h.2.2.2.2.2.1
    omega
  · obtain ⟨z, hz⟩ := Int.eq_ofNat_of_zero_le h0.1
    have bA := j.bd G hm hi
    obtain ⟨⟨s', fl⟩, ⟨p1, p2, p3, p4, p5, p6⟩, e⟩ := lp_inv (fun n (v : Sm × Int) k => f_X1_walkOn_5 a 1 i n v.1 v.2 k) id (fun k v => FR a σ v.1 ∧ RXs (wEg g i) (σ (a + 1)) (σ (a + 2)) (v.1 (a + 1)) (v.1 (a + 2)) ∧ (∀ o, o < k → ∀ x y, wEg g i (σ (a + 1)) (σ (a + 2)) o x y → v.1 (a + 1) o ≤ x ∧ v.1 (a + 2) o ≤ y) ∧ v.1 (a + 1) i = σ (a + 1) i ∧ (v.2 = 0 ∨ v.2 = 1) ∧ (v.2 = 0 → v.1 = σ)) z (fun m v hP => by
        obtain ⟨p1, p2, p3, p4, p5, p6⟩ := hP
        show f_X1_walkOn_5 a 1 i (m + 1) v.1 v.2 (z : Int) = _
        have n' := p1.nr ha n G R
        rw [f_X1_walkOn_5, if_pos (by omega), Int.toNat_natCast, p4, if_neg q, n'.st, if_pos (by omega)]; rfl) (fun m k v hk hP => by
        obtain ⟨p1, p2, p3, p4, p5, p6⟩ := hP
        have n' := p1.nr ha n G R
        by_cases w : 0 < wlk g i k ∧ g (13 + 2 * i) = 0 ∧ g (13 + 2 * k) = 0
        · have wr : 0 ≤ wlk g i k ∧ wlk g i k ≤ 30 := G.wl i k (by omega) (by omega)
          have eW : wlki g i k = wlk g i k := rfl
          have hE : wEg g i (σ (a + 1)) (σ (a + 2)) k (σ (a + 1) i + wlk g i k) (σ (a + 1) i + wlk g i k) := ⟨hi, by omega, w.1, w.2.1, w.2.2, by omega, rfl, rfl⟩
          have hE2 : wEg g i (v.1 (a + 1)) (v.1 (a + 2)) k (σ (a + 1) i + wlk g i k) (σ (a + 1) i + wlk g i k) := ⟨hi, by omega, w.1, w.2.1, w.2.2, by omega, by rw [p4], rfl⟩
          obtain ⟨s2, f2, r1, r2, r3, r4, r5, r6⟩ := c_reach v.1 a (o := k) (by omega) (σ (a + 1) i + wlk g i k) (σ (a + 1) i + wlk g i k)
          refine ⟨(s2, if f2 = 0 then v.2 else 1), ⟨p1.trans r4, ?_, fun o ho x y hx => ?_, ?_, ?_, ?_⟩, ?_⟩
          · dsimp only; rw [r2, r3]; exact p2.step hE2
          · dsimp only
            rw [r2, r3]
            by_cases e : o = k
            · subst e
              obtain ⟨-, -, -, -, -, -, rfl, rfl⟩ := hx
              rw [rxA_same, rxA_same]
              constructor <;> split <;> omega
            · rw [rxA_ne _ _ e, rxA_ne _ _ e]; exact p3 o (by omega) x y hx
          · dsimp only
            rw [r2]
            by_cases e : i = k
            · subst e; rw [rxA_same, p4, if_neg (by omega)]
            · rw [rxA_ne _ _ e]; exact p4
          · dsimp only
            split
            · exact p5
            · exact Or.inr rfl
          · dsimp only
            intro h
            split at h
            · rename_i h2; rw [r6 h2]; exact p6 h
            · cases h
          · show f_X1_walkOn_5 a 1 i (m + 1) v.1 v.2 (k : Int) = f_X1_walkOn_5 a 1 i m s2 (if f2 = 0 then v.2 else 1) ((k + 1 : Nat) : Int)
            rw [f_X1_walkOn_5, if_pos (by omega), Int.toNat_natCast, p4, if_neg q, n'.st, if_neg (by omega), c_canWalk n' G hi (by omega), Option.bind_some, if_pos w, if_neg (by decide), c_walkB n' G (by omega) (by omega), Option.bind_some, bl_eq, eW, if_pos (show rng (σ (a + 1) i + wlk g i k) by unfold rng; omega), r1, Option.bind_some]
            dsimp only
            by_cases e : f2 = 0
            · rw [if_pos e, if_pos e]
              rcases p5 with e2 | e2
              · rw [e2, if_pos rfl]; rfl
              · rw [e2, if_neg (by decide)]; rfl
            · rw [if_neg e, if_neg e]; rfl
        · refine ⟨v, ⟨p1, p2, fun o ho x y hx => ?_, p4, p5, p6⟩, ?_⟩
          · by_cases e : o = k
            · subst e; exact absurd ⟨hx.2.2.1, hx.2.2.2.1, hx.2.2.2.2.1⟩ w
            · exact p3 o (by omega) x y hx
          · show f_X1_walkOn_5 a 1 i (m + 1) v.1 v.2 (k : Int) = f_X1_walkOn_5 a 1 i m v.1 v.2 ((k + 1 : Nat) : Int)
            rw [f_X1_walkOn_5, if_pos (by omega), Int.toNat_natCast, p4, if_neg q, n'.st, if_neg (by omega), c_canWalk n' G hi (by omega), Option.bind_some, if_neg w, if_pos rfl]; rfl) N 0 (σ, 0) (by omega) (by omega) ⟨FR.refl a σ, RXs.refl _ _ _, fun o ho => by omega, rfl, Or.inl rfl, fun _ => rfl⟩
    rw [show f_X1_walkOn_5 a 1 i N σ 0 0 = some (s', fl) from e, Option.bind_some]
    exact ⟨s', fl, rfl, p1, p2, fun o x y h => p3 o (by have := h.2.1; omega) x y h, p5, p6⟩
end CR
