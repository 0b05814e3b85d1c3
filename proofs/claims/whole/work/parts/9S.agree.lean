/-! agreement of class and model, part 9S -/
/-! the script, carried out -/
section RS
variable {σ s m μ : Sm} {K : Int} {N : Nat}
theorem ck_any (n : NR 1 σ (μ 1)) (G : GI K (μ 1)) (R : RW 1 σ) (hK : 0 ≤ K ∧ K ≤ 900000) (hN : 340 < N) {i v1 v2 v3 v4 w1 w2 w3 w4 : Int} {k : Nat} (hk : k < 14) (V : vals σ i v1 v2 v3 v4 (k : Int)) (e : ∀ q, q < nvt (frm k) → [v1, v2, v3, v4].getD q 0 = [w1, w2, w3, w4].getD q 0) : CK N σ μ K i (k : Int) w1 w2 w3 w4 := by
  have e0 : 0 < nvt (frm k) → v1 = w1 := e 0
  have e1 : 1 < nvt (frm k) → v2 = w2 := e 1
  have e2 : 2 < nvt (frm k) → v3 = w3 := e 2
  have e3 : 3 < nvt (frm k) → v4 = w4 := e 3
  have hk' : k = 0 ∨ k = 1 ∨ k = 2 ∨ k = 3 ∨ k = 4 ∨ k = 5 ∨ k = 6 ∨ k = 7 ∨ k = 8 ∨ k = 9 ∨ k = 10 ∨ k = 11 ∨ k = 12 ∨ k = 13 := by omega
  rcases hk' with rfl | rfl | rfl | rfl | rfl | rfl | rfl | rfl | rfl | rfl | rfl | rfl | rfl | rfl
  · have a := e0 (by decide); subst a
    exact ck0_stop n G R V
  · have a := e0 (by decide); have b := e1 (by decide); have c := e2 (by decide); subst a; subst b; subst c
    exact ck1_walk n G R (by omega) V
  · have a := e0 (by decide); have b := e1 (by decide); have c := e2 (by decide); have d := e3 (by decide); subst a; subst b; subst c; subst d
    exact ck2_line n G R V
  · have a := e0 (by decide); have b := e1 (by decide); subst a; subst b
    exact ck3_add n G R (by omega) V
  · have a := e0 (by decide); subst a
    exact ck4_cut n G R (by omega) V
  · exact ck5_rain n G R (k := 5) (v := 1) (Or.inl ⟨rfl, rfl⟩) V
  · exact ck5_rain n G R (k := 6) (v := 0) (Or.inr ⟨rfl, rfl⟩) V
  · have a := e0 (by decide); subst a
    exact ck7_close n G R (k := 7) (v := 1) (Or.inl ⟨rfl, rfl⟩) V
  · have a := e0 (by decide); subst a
    exact ck7_close n G R (k := 8) (v := 0) (Or.inr ⟨rfl, rfl⟩) V
  · have a := e0 (by decide); subst a
    exact ck9_halt n G R (k := 9) (v := 1) (Or.inl ⟨rfl, rfl⟩) V
  · have a := e0 (by decide); subst a
    exact ck9_halt n G R (k := 10) (v := 0) (Or.inr ⟨rfl, rfl⟩) V
  · have a := e0 (by decide); have b := e1 (by decide); have c := e2 (by decide); have d := e3 (by decide); subst a; subst b; subst c; subst d
    exact ck11_sell n G R (by omega) (by omega) V
  · have a := e0 (by decide); subst a
    exact ck12_refund n G R (by omega) hN V
  · have a := e0 (by decide); subst a
    exact ck13_wait n G R hK hN V
theorem carry_ok (hN : 340 < N) {c : Nat} (hc : c ≤ 15) (hK : 0 ≤ K ∧ K ≤ 800000) : ∀ (n i : Nat) (σ m : Sm), i ≤ c → c - i < n → NR 1 σ (m 1) → GI (K + i) (m 1) → RW 1 σ → σ 386 2 = (c : Int) → m 20 0 = (c : Int) → PRel c σ m → (∃ σ' m', f_X12_carryOutAll_2 N n σ i = some (.inr σ') ∧ f_X13_runScript_31 N n m i = some (.inr m') ∧ NR 1 σ' (m' 1) ∧ GI (K + c) (m' 1) ∧ offN 1 σ σ' ∧ RW 1 σ' ∧ ∀ r, r ≠ 1 → m' r = m r) ∨ (∃ (σ' m' : Sm) (j : Nat), f_X12_carryOutAll_2 N n σ i = some (.inl (σ', (j : Int))) ∧ f_X13_runScript_31 N n m i = some (.inl (upm (upm (cpb m' 2 0 1 0 340) 14 0 (j : Int)) 11 0 2, 0)) ∧ offN 1 σ σ' ∧ RW 1 σ' ∧ ∀ r, r ≠ 1 → m' r = m r) := by
  intro n
  induction n with
  | zero => intro i σ m _ h; omega
  | succ n ih =>
    intro i σ m hi hn nr G R h2 h20 pr
    rw [f_X12_carryOutAll_2, f_X13_runScript_31, h2, h20]
    by_cases e : (c : Int) ≤ (i : Int)
    · rw [if_pos e, if_pos e]
      have : i = c := by omega
      subst this
      exact Or.inl ⟨σ, m, rfl, rfl, nr, G, offN.refl _ _, R, fun _ _ => rfl⟩
    · rw [if_neg e, if_neg e, if_pos (by omega), if_pos (by omega), if_pos (by omega), if_pos (by omega), if_pos (by omega), Int.toNat_natCast, show (4 * (i : Int)).toNat = 4 * i + 0 by omega, show (4 * (i : Int) + 1).toNat = 4 * i + 1 by omega, show (4 * (i : Int) + 2).toNat = 4 * i + 2 by omega, show (4 * (i : Int) + 3).toNat = 4 * i + 3 by omega]
      obtain ⟨k, k1, k2, k3, k4⟩ := pr i (by omega)
      have V : vals σ (i : Int) (σ 389 (4 * i + 0)) (σ 389 (4 * i + 1)) (σ 389 (4 * i + 2)) (σ 389 (4 * i + 3)) (k : Int) := by
        have ve : ∀ q : Nat, q < 4 → f_X9_valueOf σ 386 (i : Int) (q : Int) = some (σ 389 (4 * i + q)) := fun q hq => by
          unfold f_X9_valueOf
          rw [if_pos (by omega), show ((i : Int) * 4 + q).toNat = 4 * i + q by omega]
        refine ⟨ve 0 (by decide), ve 1 (by decide), ve 2 (by decide), ve 3 (by decide), ?_⟩
        unfold f_X9_commandOf
        rw [if_pos (by omega), Int.toNat_natCast]
        exact congrArg some k2
      have ck := ck_any (w1 := m 10 (4 * i + 0)) (w2 := m 10 (4 * i + 1)) (w3 := m 10 (4 * i + 2)) (w4 := m 10 (4 * i + 3)) nr G R (by omega) hN k1 V (fun q hq => by
        have h4 := (frm_ok k k1).2.1
        have hq4 : q = 0 ∨ q = 1 ∨ q = 2 ∨ q = 3 := by omega
        have := k4 q hq
        rcases hq4 with rfl | rfl | rfl | rfl <;> exact this)
      rw [k3]
      rcases ck with ⟨z, z1, z2, z3⟩ | ⟨z1, σ1, m1, a1, a2, a3, a4, a5, a6, a7⟩
      · right
        refine ⟨σ, m, i, ?_, ?_, offN.refl _ _, R, fun _ _ => rfl⟩
        · rw [z2, Option.bind_some, if_neg z1]
        · rw [z3, Option.bind_some]
          dsimp only
          have cp := m_copy (μ := m) (N := N) (r0 := 2) (a := 0) (r2 := 1) (c := 0) (by decide) (by decide) (by decide) hN
          rw [if_neg (by decide), show f_X13_copy N m 2 0 1 0 = _ from cp]; rfl
      · rw [z1, Option.bind_some, if_pos rfl, a1, Option.bind_some, a2, Option.bind_some]
        dsimp only
        rw [if_pos rfl]
        have pr1 : PRel c σ1 m1 := fun j hj => by
          obtain ⟨kk, d1, d2, d3, d4⟩ := pr j hj
          exact ⟨kk, d1, by rw [a5 388 (by decide)]; exact d2, by rw [a7 9 (by decide)]; exact d3, fun q hq => by rw [a5 389 (by decide), a7 10 (by decide)]; exact d4 q hq⟩
        have hh := ih (i + 1) σ1 m1 (by omega) (by omega) a3 (by rw [show K + ((i + 1 : Nat) : Int) = K + i + 1 by omega]; exact a4) a6 (by rw [a5 386 (by decide)]; exact h2) (by rw [a7 20 (by decide)]; exact h20) pr1
        rcases hh with ⟨σ', m', b1, b2, b3, b4, b5, b6, b7⟩ | ⟨σ', m', j, b1, b2, b3, b4, b5⟩
        · exact Or.inl ⟨σ', m', b1, b2, b3, b4, a5.trans b5, b6, fun r hr => (b7 r hr).trans (a7 r hr)⟩
        · exact Or.inr ⟨σ', m', j, b1, b2, a5.trans b3, b4, fun r hr => (b5 r hr).trans (a7 r hr)⟩
/-- what a script may change in the class -/
def FX (σ s : Sm) : Prop := ∀ r, (r < 1 ∨ 67 ≤ r) → r ≠ 0 → (r < 102 ∨ 366 ≤ r) → r ≠ 100 → r ≠ 386 → r ≠ 388 → r ≠ 389 → s r = σ r
theorem op_runScript (I : INV K σ μ) (hK : K + 16 ≤ 80000) (hN : 340 < N) : OK2 (f_X12_runScript N σ) (f_X13_runScript N μ) (K + 16) [(2, 1), (3, 2)] := by
  have hkb := I.kb
  have hsl := I.sl
  obtain ⟨ln, hln⟩ := Int.eq_ofNat_of_zero_le hsl.2.1
  have hc := I.hc
  have hn8 := I.hn
  have b17 : bgn μ 17 = μ 17 := bgn_r (by decide)
  have b8 : bgn μ 8 = μ 8 := bgn_r (by decide)
  obtain ⟨σ1, μ1, p1, p2, p3, p17, p4⟩ := parse_ok (N := N) (σ := σ) (μ := bgn μ) (ln := ln) (by omega) (by omega) (by rw [hsl.1, hln]) (fun i hi => by
    have := I.sg i (by omega)
    rw [this.1]; exact this.2) (by rw [b17, hln]) (fun i hi => by rw [b8, (I.sg i (by omega)).1])
  obtain ⟨X, hX⟩ : ∃ X, X = upm σ1 386 1 0 := ⟨_, rfl⟩
  have xr : ∀ r, r ≠ 386 → r ≠ 388 → r ≠ 389 → X r = σ r := fun r a b c => by subst hX; rw [upm_role a]; exact p2.1 r a b c
  have x386 : X 386 1 = 0 := by subst hX; exact upm_same _ _ _ _
  have m1r : ∀ r, r ≠ 2 → r ≠ 9 → r ≠ 10 → r ≠ 11 → r ≠ 17 → r ≠ 18 → r ≠ 19 → r ≠ 20 → r ≠ 21 → μ1 r = μ r := fun r a b c d e f g h i => by rw [p3 r b c e f g h i, bgn_r ⟨a, d⟩]
  have m1_2 : ∀ i, i < 340 → μ1 2 i = μ 1 i := fun i hi => by rw [p3 2 (by decide) (by decide) (by decide) (by decide) (by decide) (by decide) (by decide)]; exact bgn_2 hi
  have nX : ∀ b g, isNB b → NR b σ g → GI K g → NR b X g := fun b g hb h1 h2 => h1.same (I.rw b hb) h2.tk.2 h2.ln.2 (fun r r1 r2 => xr r (by have := isNB_rng hb; omega) (by have := isNB_rng hb; omega) (by have := isNB_rng hb; omega))
  have RX : RWS X := I.rw.same (fun b hb => xr _ (by have := isNB_rng hb; omega) (by have := isNB_rng hb; omega) (by have := isNB_rng hb; omega))
  have nb1 : isNB 1 := Or.inl rfl
  have nb34 : isNB 34 := Or.inr (Or.inl rfl)
  have nb67 : isNB 67 := Or.inr (Or.inr (Or.inl rfl))
  rcases p4 with ⟨c, c1, c2, c3, c4, c5, c6⟩ | ⟨E, c1, c2, c3, c4⟩
  · -- the text has the form
    have xc : X 386 2 = (c : Int) := by subst hX; rw [upm_cell (by decide)]; exact c4
    have prX : PRel c X μ1 := fun i hi => by
      obtain ⟨kk, d1, d2, d3, d4⟩ := c6 i hi
      exact ⟨kk, d1, by subst hX; rw [upm_role (by decide)]; exact d2, d3, fun q hq => by subst hX; rw [upm_role (by decide)]; exact d4 q hq⟩
    obtain ⟨s4, e1, e2, e3, e4⟩ := c_copy (b := 34) (s := 1) (N := N) (by omega) (Or.inr (by decide)) (nX 1 _ nb1 I.nr I.gi) I.gi (RX 34 nb34) (RX 1 nb1)
    have R4 : RWS s4 := RX.same (fun b hb => by
      rcases isNB_lt hb nb34 with e | e | e
      · subst e; exact e4
      · exact e3 _ (by omega)
      · exact e3 _ (by omega))
    have m11 : μ1 1 = μ 1 := m1r 1 (by decide) (by decide) (by decide) (by decide) (by decide) (by decide) (by decide) (by decide) (by decide)
    have n4 : NR 1 s4 (μ1 1) := by rw [m11]; exact (nX 1 _ nb1 I.nr I.gi).same (RX 1 nb1) I.gi.tk.2 I.gi.ln.2 (fun r r1 r2 => e3 r (by omega))
    have pr4 : PRel c s4 μ1 := fun i hi => by
      obtain ⟨kk, d1, d2, d3, d4⟩ := prX i hi
      exact ⟨kk, d1, by rw [e3 388 (by decide)]; exact d2, d3, fun q hq => by rw [e3 389 (by decide)]; exact d4 q hq⟩
    have cy := carry_ok (K := K) (N := N) hN c1 (by omega) N 0 s4 μ1 (by omega) (by omega) n4 (by rw [m11]; rw [show K + ((0 : Nat) : Int) = K by omega]; exact I.gi) (R4 1 nb1) (by rw [e3 386 (by decide)]; exact xc) c5 pr4
    have fcl : f_X12_runScript N σ = (f_X12_carryOutAll N s4).bind fun v5 => (if v5.2 = (-1) then (f_X6_keep N v5.1 100 34).bind fun s7 => some (s7, 0, (s7 386 2)) else (f_X8_copyFrom N v5.1 1 34).bind fun s9 => bl (upm s9 0 11 v5.2) fun s10 => some (s10, 3, 0)) := by
      unfold f_X12_runScript
      rw [c2, Option.bind_some]
      dsimp only
      rw [bl_eq, if_neg (by decide), ← hX, e1, Option.bind_some]
    have fml : f_X13_runScript N μ = (f_X13_runScript_31 N N μ1 0).bind (Sum.elim (fun v => some v) fun q39 => (f_X13_commit N q39 (q39 20 0)).bind fun v41 => some (v41.1, v41.2)) := by
      unfold f_X13_runScript
      rw [m_begin hN, Option.bind_some, p1, Option.bind_some, if_pos c3]
    rcases cy with ⟨s5, m5, a1, a2, a3, a4, a5, a6, a7⟩ | ⟨s5, m5, j, a1, a2, a5, a6, a7⟩
    · -- all commands carried out
      have G5 : GI (K + 16) (m5 1) := a4.mono (by omega)
      have R5 : RWS s5 := fun b hb => by
        by_cases q : b = 1
        · subst q; exact a6
        · exact (R4 b hb).same (a5 _ (by have := isNB_rng hb; rcases isNB_lt hb nb1 with e | e | e <;> omega))
      have n34 : NR 34 s5 (μ 1) := e2.same (R4 34 nb34) I.gi.tk.2 I.gi.ln.2 (fun r r1 r2 => a5 r (by omega))
      have f100 : s5 100 = σ 100 := by rw [a5 100 (by decide), e3 100 (by decide), xr 100 (by decide) (by decide) (by decide)]
      obtain ⟨n, hn⟩ := Int.eq_ofNat_of_zero_le hn8.1
      have hB : isNB (102 + 33 * n) := Or.inr (Or.inr (Or.inr ⟨n, by omega, rfl⟩))
      obtain ⟨s7, k1, k2, k3, k4, k5, k6⟩ := c_keep (N := N) (s := 34) (by omega) (Or.inr rfl) n34 I.gi R5 (by rw [f100]; exact hn8) (by rw [f100, hc.1]; exact hc.2)
      have hz : (s5 100 1).toNat = n := by rw [f100]; omega
      rw [hz] at k2 k3 k4
      have R7 : RWS s7 := R5.same (fun b hb => by
        rcases isNB_lt hb hB with e | e | e
        · subst e; exact k4
        · exact k3 _ (by have := isNB_rng hb; omega) (by omega)
        · exact k3 _ (by have := isNB_rng hb; omega) (by omega))
      have s7r : ∀ r, (r < 1 ∨ 67 ≤ r) → r ≠ 100 → (r < 102 + 33 * n ∨ 102 + 33 * n + 33 ≤ r) → r ≠ 386 → r ≠ 388 → r ≠ 389 → s7 r = σ r := fun r a b c d e f => by rw [k3 r b c, a5 r (by omega), e3 r (by omega), xr r d e f]
      have m5r : ∀ r, r ≠ 1 → r ≠ 2 → r ≠ 9 → r ≠ 10 → r ≠ 11 → r ≠ 17 → r ≠ 18 → r ≠ 19 → r ≠ 20 → r ≠ 21 → m5 r = μ r := fun r z a b c d e f g h i => by rw [a7 r z, m1r r a b c d e f g h i]
      have m52 : ∀ i, i < 340 → m5 2 i = μ 1 i := fun i hi => by rw [a7 2 (by decide)]; exact m1_2 i hi
      have m520 : m5 20 0 = (c : Int) := by rw [a7 20 (by decide)]; exact c5
      obtain ⟨μ', h1, h2, h3, h4, h5⟩ := hist_ok (σ' := s7) (K' := K + 16) I (by omega) hN hn (fun r r1 r2 r3 => s7r r (by omega) (by omega) r3 (by omega) (by omega) (by omega)) k2 R7 (by rw [k5, f100]) (by rw [k6, f100]) (μo := m5) (m5r 4 (by decide) (by decide) (by decide) (by decide) (by decide) (by decide) (by decide) (by decide) (by decide) (by decide)) m52 (m5r 12 (by decide) (by decide) (by decide) (by decide) (by decide) (by decide) (by decide) (by decide) (by decide) (by decide)) (c : Int)
      have μr : ∀ r, r ≠ 1 → r ≠ 2 → r ≠ 4 → r ≠ 9 → r ≠ 10 → r ≠ 11 → r ≠ 12 → r ≠ 17 → r ≠ 18 → r ≠ 19 → r ≠ 20 → r ≠ 21 → μ' r = μ r := fun r y z w a b c x d e f g h => by rw [h2 r w x, m5r r y z a b c d e f g h]
      have e386 : s7 386 = X 386 := by rw [k3 386 (by decide) (by omega), a5 386 (by decide), e3 386 (by decide)]
      have inv : INV (K + 16) s7 μ' := by
        refine INV.mk ?_ ?_ ⟨by omega, hK⟩ R7 h3 h4 h5 ?_ ?_ ?_ ?_ ?_ ?_ ?_
        · rw [h2 1 (by decide) (by decide)]
          exact a3.same a6 G5.tk.2 G5.ln.2 (fun r r1 r2 => k3 r (by omega) (by omega))
        · rw [h2 1 (by decide) (by decide)]; exact G5
        · rw [s7r 0 (by decide) (by decide) (by omega) (by decide) (by decide) (by decide), μr 15 (by decide) (by decide) (by decide) (by decide) (by decide) (by decide) (by decide) (by decide) (by decide) (by decide) (by decide) (by decide)]; exact I.sv
        · intro h
          rw [μr 15 (by decide) (by decide) (by decide) (by decide) (by decide) (by decide) (by decide) (by decide) (by decide) (by decide) (by decide) (by decide)] at h
          rw [μr 3 (by decide) (by decide) (by decide) (by decide) (by decide) (by decide) (by decide) (by decide) (by decide) (by decide) (by decide) (by decide)]
          obtain ⟨q1, q2⟩ := I.sn h
          exact ⟨q1.same (I.rw 67 nb67) q2.tk.2 q2.ln.2 (fun r r1 r2 => s7r r (by omega) (by omega) (by omega) (by omega) (by omega) (by omega)), q2.mono (by omega)⟩
        · have e17 : μ' 17 0 = 0 := by rw [h2 17 (by decide) (by decide), a7 17 (by decide)]; exact p17
          rw [e17, e386, x386]; exact ⟨rfl, by omega, by omega⟩
        · intro i hi
          have e17 : μ' 17 0 = 0 := by rw [h2 17 (by decide) (by decide), a7 17 (by decide)]; exact p17
          rw [e17] at hi; omega
        · rw [s7r 0 (by decide) (by decide) (by omega) (by decide) (by decide) (by decide), μr 13 (by decide) (by decide) (by decide) (by decide) (by decide) (by decide) (by decide) (by decide) (by decide) (by decide) (by decide) (by decide)]; exact I.er
        · rw [s7r 0 (by decide) (by decide) (by omega) (by decide) (by decide) (by decide), μr 14 (by decide) (by decide) (by decide) (by decide) (by decide) (by decide) (by decide) (by decide) (by decide) (by decide) (by decide) (by decide)]; exact I.fl
        · obtain ⟨t, t1, t2⟩ := I.ot
          refine ⟨t, ?_, ?_⟩
          · unfold BI at t1 ⊢
            rw [s7r 390 (by decide) (by decide) (by omega) (by decide) (by decide) (by decide), s7r 391 (by decide) (by decide) (by omega) (by decide) (by decide) (by decide)]; exact t1
          · rw [μr 16 (by decide) (by decide) (by decide) (by decide) (by decide) (by decide) (by decide) (by decide) (by decide) (by decide) (by decide) (by decide), μr 7 (by decide) (by decide) (by decide) (by decide) (by decide) (by decide) (by decide) (by decide) (by decide) (by decide) (by decide) (by decide)]; exact t2
      have m11z : μ' 11 0 = 0 := by
        rw [h2 11 (by decide) (by decide), a7 11 (by decide), p3 11 (by decide) (by decide) (by decide) (by decide) (by decide) (by decide) (by decide)]; exact bgn_11
      refine ⟨s7, 0, (c : Int), μ', (c : Int), ?_, ?_, Or.inl ⟨rfl, m11z, rfl⟩, inv⟩
      · rw [fcl]
        unfold f_X12_carryOutAll
        rw [show f_X12_carryOutAll_2 N N s4 0 = _ from a1]
        show (if (-1 : Int) = -1 then (f_X6_keep N s5 100 34).bind fun s7 => some (s7, 0, (s7 386 2)) else (f_X8_copyFrom N s5 1 34).bind fun s9 => bl (upm s9 0 11 (-1)) fun s10 => some (s10, 3, 0)) = _
        rw [if_pos rfl, k1, Option.bind_some, e386, xc]
      · rw [fml, show f_X13_runScript_31 N N μ1 0 = _ from a2]
        show (f_X13_commit N m5 (m5 20 0)).bind _ = _
        rw [m520, h1]; rfl
    · -- a command failed
      have R5 : RWS s5 := fun b hb => by
        by_cases q : b = 1
        · subst q; exact a6
        · exact (R4 b hb).same (a5 _ (by have := isNB_rng hb; rcases isNB_lt hb nb1 with e | e | e <;> omega))
      have n34 : NR 34 s5 (μ 1) := e2.same (R4 34 nb34) I.gi.tk.2 I.gi.ln.2 (fun r r1 r2 => a5 r (by omega))
      obtain ⟨s9, k1, k2, k3, k4⟩ := c_copy (b := 1) (s := 34) (N := N) (by omega) (Or.inl (by decide)) n34 I.gi (R5 1 nb1) (R5 34 nb34)
      have R9 : RWS s9 := R5.same (fun b hb => by
        rcases isNB_lt hb nb1 with e | e | e
        · subst e; exact k4
        · exact k3 _ (by omega)
        · exact k3 _ (by omega))
      obtain ⟨Y, hY⟩ : ∃ Y, Y = upm s9 0 11 (j : Int) := ⟨_, rfl⟩
      obtain ⟨M, hM⟩ : ∃ M, M = upm (upm (cpb m5 2 0 1 0 340) 14 0 (j : Int)) 11 0 2 := ⟨_, rfl⟩
      have y0 : ∀ r, r ≠ 0 → Y r = s9 r := fun r h => by subst hY; exact upm_role h
      have s9r : ∀ r, (r < 1 ∨ 67 ≤ r) → r ≠ 386 → r ≠ 388 → r ≠ 389 → s9 r = σ r := fun r a d e f => by rw [k3 r (by omega), a5 r (by omega), e3 r (by omega), xr r d e f]
      have Mr : ∀ r, r ≠ 1 → r ≠ 14 → r ≠ 11 → M r = m5 r := fun r a b c => by
        subst hM
        rw [upm_role c, upm_role b]
        funext i
        unfold cpb; rw [if_neg (fun h => a h.1)]
      have μr : ∀ r, r ≠ 1 → r ≠ 2 → r ≠ 9 → r ≠ 10 → r ≠ 11 → r ≠ 14 → r ≠ 17 → r ≠ 18 → r ≠ 19 → r ≠ 20 → r ≠ 21 → M r = μ r := fun r y z a b c x d e f g h => by rw [Mr r y x c, a7 r y, m1r r z a b c d e f g h]
      have M1 : ∀ i, i < 340 → M 1 i = μ 1 i := fun i hi => by
        subst hM
        rw [upm_role (by decide), upm_role (by decide)]
        unfold cpb
        rw [if_pos ⟨rfl, by omega, by omega⟩, show 0 + (i - 0) = i by omega, a7 2 (by decide)]; exact m1_2 i hi
      have y34 : ∀ b g, isNB b → b ≠ 1 → b ≠ 34 → NR b σ g → GI K g → NR b Y g := fun b g hb q1 q2 h1 h2 => h1.same (I.rw b hb) h2.tk.2 h2.ln.2 (fun r r1 r2 => by
        have hr := isNB_rng hb
        rw [y0 r (by omega), s9r r (by
          rcases isNB_lt hb nb1 with e | e | e
          · exact absurd e q1
          · omega
          · rcases isNB_lt hb nb34 with e' | e' | e'
            · exact absurd e' q2
            · omega
            · omega) (by omega) (by omega) (by omega)])
      have blk : ∀ d, hblk M d = hblk μ d := fun d => by
        unfold hblk; rw [μr 4 (by decide) (by decide) (by decide) (by decide) (by decide) (by decide) (by decide) (by decide) (by decide) (by decide) (by decide)]
      have y100 : Y 100 = σ 100 := by rw [y0 100 (by decide), s9r 100 (by decide) (by decide) (by decide) (by decide)]
      have RY : RWS Y := R9.same (fun b hb => y0 _ (by omega))
      have yc : ∀ i, i ≠ 11 → Y 0 i = σ 0 i := fun i hi => by
        subst hY; rw [upm_cell hi, s9r 0 (by decide) (by decide) (by decide) (by decide)]
      have e386 : Y 386 = X 386 := by rw [y0 386 (by decide), k3 386 (by decide), a5 386 (by decide), e3 386 (by decide)]
      have e17 : M 17 0 = 0 := by rw [Mr 17 (by decide) (by decide) (by decide), a7 17 (by decide)]; exact p17
      have M12 := μr 12 (by decide) (by decide) (by decide) (by decide) (by decide) (by decide) (by decide) (by decide) (by decide) (by decide) (by decide)
      have M15 := μr 15 (by decide) (by decide) (by decide) (by decide) (by decide) (by decide) (by decide) (by decide) (by decide) (by decide) (by decide)
      have inv : INV (K + 16) Y M := by
        refine INV.mk ?_ ?_ ⟨by omega, hK⟩ RY (by rw [y100]; exact hn8) (by rw [y100, M12]; exact hc) (fun d hd => ?_) ?_ ?_ ?_ ?_ ?_ ?_ ?_
        · exact (k2.same (R9 1 nb1) I.gi.tk.2 I.gi.ln.2 (fun r r1 r2 => y0 r (by omega))).eqv I.gi (RY 1 nb1) M1
        · exact (I.gi.eqv M1).mono (by omega)
        · rw [M12] at hd ⊢
          rw [blk, y100]
          obtain ⟨q1, q2⟩ := I.hi d hd
          have hbn := isNB_hb (σ 100 1) (μ 12 0) d
          exact ⟨y34 _ _ hbn (by unfold hb; omega) (by unfold hb; omega) q1 q2, q2.mono (by omega)⟩
        · rw [yc 3 (by decide), M15]; exact I.sv
        · intro h
          rw [M15] at h
          rw [μr 3 (by decide) (by decide) (by decide) (by decide) (by decide) (by decide) (by decide) (by decide) (by decide) (by decide) (by decide)]
          obtain ⟨q1, q2⟩ := I.sn h
          exact ⟨y34 67 _ nb67 (by decide) (by decide) q1 q2, q2.mono (by omega)⟩
        · rw [e17, e386, x386]; exact ⟨rfl, by omega, by omega⟩
        · intro i hi
          rw [e17] at hi; omega
        · rw [yc 10 (by decide), μr 13 (by decide) (by decide) (by decide) (by decide) (by decide) (by decide) (by decide) (by decide) (by decide) (by decide) (by decide)]; exact I.er
        · have y11 : Y 0 11 = (j : Int) := by subst hY; exact upm_same _ _ _ _
          have m14 : M 14 0 = (j : Int) := by subst hM; rw [upm_role (by decide), upm_same]
          rw [y11, m14]; exact ⟨rfl, by omega⟩
        · obtain ⟨t, t1, t2⟩ := I.ot
          refine ⟨t, ?_, ?_⟩
          · unfold BI at t1 ⊢
            rw [y0 390 (by decide), y0 391 (by decide), s9r 390 (by decide) (by decide) (by decide) (by decide), s9r 391 (by decide) (by decide) (by decide) (by decide)]; exact t1
          · rw [μr 16 (by decide) (by decide) (by decide) (by decide) (by decide) (by decide) (by decide) (by decide) (by decide) (by decide) (by decide), μr 7 (by decide) (by decide) (by decide) (by decide) (by decide) (by decide) (by decide) (by decide) (by decide) (by decide) (by decide)]; exact t2
      have m11z : M 11 0 = 2 := by subst hM; exact upm_same _ _ _ _
      refine ⟨Y, 3, 0, M, 0, ?_, ?_, Or.inr ⟨by decide, by rw [m11z]; decide⟩, inv⟩
      · rw [fcl]
        unfold f_X12_carryOutAll
        rw [show f_X12_carryOutAll_2 N N s4 0 = _ from a1]
        show (if ((j : Int)) = -1 then (f_X6_keep N s5 100 34).bind fun s7 => some (s7, 0, (s7 386 2)) else (f_X8_copyFrom N s5 1 34).bind fun s9 => bl (upm s9 0 11 (j : Int)) fun s10 => some (s10, 3, 0)) = _
        rw [if_neg (by omega), k1, Option.bind_some, bl_eq, hY]
      · rw [fml, show f_X13_runScript_31 N N μ1 0 = _ from a2, hM]; rfl
  · -- the text has not the form
    obtain ⟨Y, hY⟩ : ∃ Y, Y = upm X 0 10 (E : Int) := ⟨_, rfl⟩
    obtain ⟨M, hM⟩ : ∃ M, M = upm (upm μ1 13 0 (E : Int)) 11 0 1 := ⟨_, rfl⟩
    have y0 : ∀ r, r ≠ 0 → Y r = X r := fun r h => by subst hY; exact upm_role h
    have yr : ∀ r, r ≠ 0 → r ≠ 386 → r ≠ 388 → r ≠ 389 → Y r = σ r := fun r z a b c => by rw [y0 r z, xr r a b c]
    have Mr : ∀ r, r ≠ 2 → r ≠ 9 → r ≠ 10 → r ≠ 11 → r ≠ 13 → r ≠ 17 → r ≠ 18 → r ≠ 19 → r ≠ 20 → r ≠ 21 → M r = μ r := fun r a b c d x e f g h i => by subst hM; rw [upm_role d, upm_role x, m1r r a b c d e f g h i]
    have M1 := Mr 1 (by decide) (by decide) (by decide) (by decide) (by decide) (by decide) (by decide) (by decide) (by decide) (by decide)
    have M12 := Mr 12 (by decide) (by decide) (by decide) (by decide) (by decide) (by decide) (by decide) (by decide) (by decide) (by decide)
    have M15 := Mr 15 (by decide) (by decide) (by decide) (by decide) (by decide) (by decide) (by decide) (by decide) (by decide) (by decide)
    have blk : ∀ d, hblk M d = hblk μ d := fun d => by
      unfold hblk; rw [Mr 4 (by decide) (by decide) (by decide) (by decide) (by decide) (by decide) (by decide) (by decide) (by decide) (by decide)]
    have nY : ∀ b g, isNB b → NR b σ g → GI K g → NR b Y g := fun b g hb h1 h2 => h1.same (I.rw b hb) h2.tk.2 h2.ln.2 (fun r r1 r2 => by have := isNB_rng hb; exact yr r (by omega) (by omega) (by omega) (by omega))
    have RY : RWS Y := I.rw.same (fun b hb => by have := isNB_rng hb; exact yr _ (by omega) (by omega) (by omega) (by omega))
    have y100 : Y 100 = σ 100 := yr 100 (by decide) (by decide) (by decide) (by decide)
    have yc : ∀ i, i ≠ 10 → Y 0 i = σ 0 i := fun i hi => by
      subst hY; rw [upm_cell hi, xr 0 (by decide) (by decide) (by decide)]
    have e17 : M 17 0 = 0 := by subst hM; rw [upm_role (by decide), upm_role (by decide)]; exact p17
    have inv : INV (K + 16) Y M := by
      refine INV.mk (by rw [M1]; exact nY 1 _ nb1 I.nr I.gi) (by rw [M1]; exact I.gi.mono (by omega)) ⟨by omega, hK⟩ RY (by rw [y100]; exact hn8) (by rw [y100, M12]; exact hc) (fun d hd => ?_) ?_ ?_ ?_ ?_ ?_ ?_ ?_
      · rw [M12] at hd ⊢
        rw [blk, y100]
        obtain ⟨q1, q2⟩ := I.hi d hd
        exact ⟨nY _ _ (isNB_hb _ _ _) q1 q2, q2.mono (by omega)⟩
      · rw [yc 3 (by decide), M15]; exact I.sv
      · intro h
        rw [M15] at h
        rw [Mr 3 (by decide) (by decide) (by decide) (by decide) (by decide) (by decide) (by decide) (by decide) (by decide) (by decide)]
        obtain ⟨q1, q2⟩ := I.sn h
        exact ⟨nY 67 _ nb67 q1 q2, q2.mono (by omega)⟩
      · rw [e17, y0 386 (by decide), x386]; exact ⟨rfl, by omega, by omega⟩
      · intro i hi
        rw [e17] at hi; omega
      · have y10 : Y 0 10 = (E : Int) := by subst hY; exact upm_same _ _ _ _
        have m13 : M 13 0 = (E : Int) := by subst hM; rw [upm_role (by decide), upm_same]
        rw [y10, m13]; exact ⟨rfl, by omega⟩
      · rw [yc 11 (by decide), Mr 14 (by decide) (by decide) (by decide) (by decide) (by decide) (by decide) (by decide) (by decide) (by decide) (by decide)]; exact I.fl
      · obtain ⟨t, t1, t2⟩ := I.ot
        refine ⟨t, ?_, ?_⟩
        · unfold BI at t1 ⊢
          rw [yr 390 (by decide) (by decide) (by decide) (by decide), yr 391 (by decide) (by decide) (by decide) (by decide)]; exact t1
        · rw [Mr 16 (by decide) (by decide) (by decide) (by decide) (by decide) (by decide) (by decide) (by decide) (by decide) (by decide), Mr 7 (by decide) (by decide) (by decide) (by decide) (by decide) (by decide) (by decide) (by decide) (by decide) (by decide)]; exact t2
    have m11z : M 11 0 = 1 := by subst hM; exact upm_same _ _ _ _
    have x3 : X 386 3 = (E : Int) := by subst hX; rw [upm_cell (by decide)]; exact c2
    refine ⟨Y, 2, 0, M, 0, ?_, ?_, Or.inr ⟨by decide, by rw [m11z]; decide⟩, inv⟩
    · unfold f_X12_runScript
      rw [c1, Option.bind_some]
      dsimp only
      rw [bl_eq, if_pos rfl, bl_eq, ← hX, x3, hY]
    · unfold f_X13_runScript
      rw [m_begin hN, Option.bind_some, p1, Option.bind_some, if_neg (by rw [c3]; decide), bl_eq, c4, hM]; rfl
end RS
