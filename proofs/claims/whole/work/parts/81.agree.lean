/-! agreement of class and model, part 81 -/
/-! a change is kept in both histories -/
section HK
variable {σ σ' μ : Sm} {g g' : Ga} {K K' : Int} {N : Nat}
theorem hist_ok (I : INV K σ μ) (hK : K ≤ K') (hN : 340 < N) {n : Nat} (hn : σ 100 1 = (n : Int)) (fk : ∀ r, 102 ≤ r → r < 366 → (r < 102 + 33 * n ∨ 102 + 33 * n + 33 ≤ r) → σ' r = σ r) (fB : NR (102 + 33 * n) σ' (μ 1)) (R' : RWS σ') (h1 : σ' 100 1 = (if σ 100 1 = 7 then 0 else σ 100 1 + 1)) (h2 : σ' 100 2 = (if σ 100 2 = 8 then 8 else σ 100 2 + 1)) {μo : Sm} (m4 : μo 4 = μ 4) (m2 : ∀ i, i < 340 → μo 2 i = μ 1 i) (m12 : μo 12 = μ 12) (v : Int) :
    ∃ μ', f_X13_commit N μo v = some (μ', v) ∧ (∀ r, r ≠ 4 → r ≠ 12 → μ' r = μo r) ∧ (0 ≤ σ' 100 1 ∧ σ' 100 1 < 8) ∧ (σ' 100 2 = μ' 12 0 ∧ 0 ≤ μ' 12 0 ∧ μ' 12 0 ≤ 8) ∧ ∀ d : Nat, (d : Int) < μ' 12 0 → NR (hb (σ' 100 1) (μ' 12 0) d) σ' (hblk μ' d) ∧ GI K' (hblk μ' d) := by
  have hc := I.hc
  have hn8 := I.hn
  have GM := I.gi.mono hK
  have old : ∀ d : Nat, (d : Int) < μ 12 0 → hb (σ 100 1) (μ 12 0) d ≠ 102 + 33 * n → NR (hb (σ 100 1) (μ 12 0) d) σ' (hblk μ d) ∧ GI K' (hblk μ d) := fun d hd hne => by
    obtain ⟨q1, q2⟩ := I.hi d hd
    have hb1 := isNB_hb (σ 100 1) (μ 12 0) d
    have hB : isNB (102 + 33 * n) := Or.inr (Or.inr (Or.inr ⟨n, by omega, rfl⟩))
    refine ⟨q1.same (I.rw _ hb1) q2.tk.2 q2.ln.2 (fun r r1 r2 => fk r ?_ ?_ ?_), q2.mono hK⟩
    · unfold hb at r1; omega
    · have := isNB_rng hb1; omega
    · rcases isNB_lt hb1 hB with e | e | e
      · exact absurd e hne
      · omega
      · omega
  by_cases h8 : μ 12 0 = 8
  · obtain ⟨μ', e1, e2, e3, e4, e5⟩ := m_commit8 (μ := μo) (N := N) (v := v) (by rw [m12]; exact h8) hN
    refine ⟨μ', e1, e2, by rw [h1]; split <;> omega, by rw [h2, hc.1, if_pos h8, e3]; omega, fun d hd => ?_⟩
    rw [e3] at hd ⊢
    by_cases q : d = 7
    · subst q
      have eb : hb (σ' 100 1) 8 7 = 102 + 33 * n := by
        unfold hb; rw [h1, hn]; split <;> omega
      have eq : ∀ i, i < 340 → hblk μ' 7 i = μ 1 i := fun i hi => by
        unfold hblk; rw [show 340 * 7 + i = 2380 + i by omega, e5 i hi, m2 i hi]
      rw [eb]
      exact ⟨fB.eqv GM (R' _ (Or.inr (Or.inr (Or.inr ⟨n, by omega, rfl⟩)))) eq, GM.eqv eq⟩
    · have eb : hb (σ' 100 1) 8 d = hb (σ 100 1) (μ 12 0) (d + 1) := by
        unfold hb; rw [h1, hn, h8]; split <;> omega
      have eq : ∀ i, i < 340 → hblk μ' d i = hblk μ (d + 1) i := fun i hi => by
        unfold hblk; rw [e4 d i (by omega) hi, m4]
      obtain ⟨o1, o2⟩ := old (d + 1) (by omega) (by unfold hb; rw [hn, h8]; omega)
      rw [eb]
      exact ⟨o1.eqv o2 (R' _ (isNB_hb _ _ _)) eq, o2.eqv eq⟩
  · obtain ⟨k, hk⟩ := Int.eq_ofNat_of_zero_le hc.2.1
    obtain ⟨μ', e1, e2, e3, e4, e5⟩ := m_commitk (μ := μo) (N := N) (v := v) (k := k) (by rw [m12]; exact hk) (by omega) hN
    refine ⟨μ', e1, e2, by rw [h1]; split <;> omega, by rw [h2, hc.1, if_neg h8, e3]; omega, fun d hd => ?_⟩
    rw [e3] at hd ⊢
    by_cases q : d = k
    · subst q
      have eb : hb (σ' 100 1) ((d : Int) + 1) d = 102 + 33 * n := by
        unfold hb; rw [h1, hn]; split <;> omega
      have eq : ∀ i, i < 340 → hblk μ' d i = μ 1 i := fun i hi => by
        unfold hblk; rw [e5 i hi, m2 i hi]
      rw [eb]
      exact ⟨fB.eqv GM (R' _ (Or.inr (Or.inr (Or.inr ⟨n, by omega, rfl⟩)))) eq, GM.eqv eq⟩
    · have eb : hb (σ' 100 1) ((k : Int) + 1) d = hb (σ 100 1) (μ 12 0) d := by
        unfold hb; rw [h1, hn, hk]; split <;> omega
      have eq : ∀ i, i < 340 → hblk μ' d i = hblk μ d i := fun i hi => by
        unfold hblk; rw [e4 _ (by omega), m4]
      obtain ⟨o1, o2⟩ := old d (by omega) (by unfold hb; rw [hn, hk]; omega)
      rw [eb]
      exact ⟨o1.eqv o2 (R' _ (isNB_hb _ _ _)) eq, o2.eqv eq⟩
/-- what else INV says, carried over -/
theorem rest_ok (I : INV K σ μ) (hK : K ≤ K') (hK' : K' ≤ 80000) {μ' : Sm} (nr : NR 1 σ' (μ' 1)) (gi : GI K' (μ' 1)) (R' : RWS σ') (h1 : 0 ≤ σ' 100 1 ∧ σ' 100 1 < 8) (h2 : σ' 100 2 = μ' 12 0 ∧ 0 ≤ μ' 12 0 ∧ μ' 12 0 ≤ 8) (h3 : ∀ d : Nat, (d : Int) < μ' 12 0 → NR (hb (σ' 100 1) (μ' 12 0) d) σ' (hblk μ' d) ∧ GI K' (hblk μ' d)) (f0 : σ' 0 = σ 0) (f67 : ∀ r, 67 ≤ r → r < 100 → σ' r = σ r) (f386 : ∀ r, 386 ≤ r → σ' r = σ r) (m : ∀ r, r ≠ 1 → r ≠ 2 → r ≠ 4 → r ≠ 5 → r ≠ 6 → r ≠ 11 → r ≠ 12 → μ' r = μ r) : INV K' σ' μ' := by
  refine INV.mk nr gi ⟨by have := I.kb; omega, hK'⟩ R' h1 h2 h3 ?_ ?_ ?_ ?_ ?_ ?_ ?_
  · rw [f0, m 15 (by decide) (by decide) (by decide) (by decide) (by decide) (by decide) (by decide)]; exact I.sv
  · intro h
    rw [m 15 (by decide) (by decide) (by decide) (by decide) (by decide) (by decide) (by decide)] at h
    rw [m 3 (by decide) (by decide) (by decide) (by decide) (by decide) (by decide) (by decide)]
    obtain ⟨q1, q2⟩ := I.sn h
    exact ⟨q1.same (I.rw 67 (Or.inr (Or.inr (Or.inl rfl)))) q2.tk.2 q2.ln.2 (fun r r1 r2 => f67 r r1 (by omega)), q2.mono hK⟩
  · rw [f386 386 (by decide), m 17 (by decide) (by decide) (by decide) (by decide) (by decide) (by decide) (by decide)]; exact I.sl
  · intro i hi
    rw [m 17 (by decide) (by decide) (by decide) (by decide) (by decide) (by decide) (by decide)] at hi
    rw [f386 387 (by decide), m 8 (by decide) (by decide) (by decide) (by decide) (by decide) (by decide) (by decide)]; exact I.sg i hi
  · rw [f0, m 13 (by decide) (by decide) (by decide) (by decide) (by decide) (by decide) (by decide)]; exact I.er
  · rw [f0, m 14 (by decide) (by decide) (by decide) (by decide) (by decide) (by decide) (by decide)]; exact I.fl
  · obtain ⟨t, h, q⟩ := I.ot
    refine ⟨t, ?_, ?_⟩
    · unfold BI at h ⊢
      rw [f386 390 (by decide), f386 391 (by decide)]; exact h
    · rw [m 16 (by decide) (by decide) (by decide) (by decide) (by decide) (by decide) (by decide), m 7 (by decide) (by decide) (by decide) (by decide) (by decide) (by decide) (by decide)]; exact q
/-- a change of the network: kept, carried out, committed -/
theorem chg_ok (I : INV K σ μ) (hK : K ≤ K') (hK' : K' ≤ 80000) (hN : 340 < N) : ∃ σk, f_X6_keep N σ 100 1 = some σk ∧ NR 1 σk (μ 1) ∧ RWS σk ∧ ∀ (σ' : Sm) (g' : Ga), NR 1 σ' g' → GI K' g' → offN 1 σk σ' → RW 1 σ' → ∀ μo, MS (bgn μ) μo g' → ∀ v, ∃ μ', f_X13_commit N μo v = some (μ', v) ∧ μ' 11 0 = 0 ∧ INV K' σ' μ' := by
  have hc := I.hc
  obtain ⟨n, hn⟩ := Int.eq_ofNat_of_zero_le I.hn.1
  have hn8 := I.hn
  have hB : isNB (102 + 33 * n) := Or.inr (Or.inr (Or.inr ⟨n, by omega, rfl⟩))
  obtain ⟨σk, e1, e2, e3, e4, e5, e6⟩ := c_keep (N := N) (s := 1) (by omega) (Or.inl rfl) I.nr I.gi I.rw I.hn (by rw [hc.1]; exact hc.2)
  have hz : (σ 100 1).toNat = n := by omega
  rw [hz] at e2 e3 e4
  have Rk : RWS σk := I.rw.same (fun b hb => by
    rcases isNB_lt hb hB with e | e | e
    · subst e; exact e4
    · exact e3 _ (by have := isNB_rng hb; omega) (by omega)
    · exact e3 _ (by have := isNB_rng hb; omega) (by omega))
  refine ⟨σk, e1, I.nr.same (I.rw 1 (Or.inl rfl)) I.gi.tk.2 I.gi.ln.2 (fun r h1 h2 => e3 r (by omega) (by omega)), Rk, fun σ' g' n1 G' off R1 μo M v => ?_⟩
  have R' : RWS σ' := fun b hb => by
    by_cases q : b = 1
    · subst q; exact R1
    · exact (Rk b hb).same (off _ (by have := isNB_rng hb; rcases isNB_lt hb (Or.inl rfl) with e | e | e <;> omega))
  obtain ⟨μ', c1, c2, c3, c4, c5⟩ := hist_ok (σ' := σ') (K' := K') I hK hN hn (fun r h1 h2 h3 => by rw [off r (by omega), e3 r (by omega) h3]) (e2.same (Rk _ hB) I.gi.tk.2 I.gi.ln.2 (fun r h1 h2 => off r (by omega))) R' (by rw [off 100 (by omega)]; exact e5) (by rw [off 100 (by omega)]; exact e6) (μo := μo) (by rw [M.1 4 (by decide), bgn_r (by decide)]) (fun i hi => by rw [M.1 2 (by decide), bgn_2 hi]) (by rw [M.1 12 (by decide), bgn_r (by decide)]) v
  have m1 : μ' 1 = g' := by rw [c2 1 (by decide) (by decide)]; exact M.2
  refine ⟨μ', c1, by rw [c2 11 (by decide) (by decide), M.1 11 (by decide)]; exact bgn_11, rest_ok I hK hK' (by rw [m1]; exact n1) (by rw [m1]; exact G') R' c3 c4 c5 (by rw [off 0 (by omega), e3 0 (by omega) (by omega)]) (fun r h1 h2 => by rw [off r (by omega), e3 r (by omega) (by omega)]) (fun r h1 => by rw [off r (by omega), e3 r (by omega) (by omega)]) (fun r h1 h2 h3 _ _ h4 h5 => by rw [c2 r h3 h5, M.1 r h1, bgn_r ⟨h2, h4⟩])⟩
/-- a refused change -/
theorem ref_ok (I : INV K σ μ) (w : Int) : f_X13_fail (bgn μ) w = some (upm (bgn μ) 11 0 w, 0) ∧ INV K σ (upm (bgn μ) 11 0 w) := by
  refine ⟨rfl, ?_⟩
  have e : ∀ r, r ≠ 2 → r ≠ 11 → upm (bgn μ) 11 0 w r = μ r := fun r h1 h2 => by rw [upm_role h2, bgn_r ⟨h1, h2⟩]
  have h : ∀ d, hblk (upm (bgn μ) 11 0 w) d = hblk μ d := fun d => by unfold hblk; rw [e 4 (by decide) (by decide)]
  refine rest_ok I (Int.le_refl _) I.kb.2 (by rw [e 1 (by decide) (by decide)]; exact I.nr) (by rw [e 1 (by decide) (by decide)]; exact I.gi) I.rw I.hn (by rw [e 12 (by decide) (by decide)]; exact I.hc) (fun d hd => ?_) rfl (fun _ _ _ => rfl) (fun _ _ => rfl) (fun r h1 h2 _ _ _ h4 _ => e r h2 h4)
  rw [e 12 (by decide) (by decide)] at hd ⊢
  rw [h]; exact I.hi d hd
/-- a question: thrown, there, ready may change -/
theorem ask_ok (I : INV K σ μ) {μ' : Sm} (e : ∀ r, r ≠ 5 → r ≠ 6 → r ≠ 11 → μ' r = μ r) (hs : ∀ r, (r < 366 ∨ 386 ≤ r) → σ' r = σ r) : INV K σ' μ' := by
  have h : ∀ d, hblk μ' d = hblk μ d := fun d => by unfold hblk; rw [e 4 (by decide) (by decide) (by decide)]
  have nrs : ∀ b g, isNB b → NR b σ g → GI K g → NR b σ' g := fun b g hb h1 h2 => h1.same (I.rw b hb) h2.tk.2 h2.ln.2 (fun r r1 r2 => hs r (by have := isNB_rng hb; omega))
  refine rest_ok I (Int.le_refl _) I.kb.2 (by rw [e 1 (by decide) (by decide) (by decide)]; exact nrs _ _ (Or.inl rfl) I.nr I.gi) (by rw [e 1 (by decide) (by decide) (by decide)]; exact I.gi) (I.rw.same (fun b hb => hs _ (by have := isNB_rng hb; omega))) (by rw [hs 100 (by decide)]; exact I.hn) (by rw [e 12 (by decide) (by decide) (by decide), hs 100 (by decide)]; exact I.hc) (fun d hd => ?_) (hs 0 (by decide)) (fun r _ h2 => hs r (by omega)) (fun r h1 => hs r (Or.inr h1)) (fun r _ _ _ h4 h5 h6 _ => e r h4 h5 h6)
  rw [e 12 (by decide) (by decide) (by decide)] at hd ⊢
  rw [h, hs 100 (by decide)]
  obtain ⟨q1, q2⟩ := I.hi d hd
  exact ⟨nrs _ _ (isNB_hb _ _ _) q1 q2, q2⟩
end HK
