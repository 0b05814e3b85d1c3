/-! agreement of class and model, part 9C -/
/-! the journeys' answers -/
section JA
variable {σ s μ : Sm} {g A R C D : Ga} {K m0 : Int} {N a f t : Nat}
theorem JV.start (j : JV g f m0 A R) (G : GI K g) (hm : 0 ≤ m0 ∧ m0 ≤ 9700000) (hf : (f : Int) < g 0) : A f = m0 := by
  have h := j.dm (fun _ => m0) (fun _ => m0) (fun o x y hE => by
    show m0 ≤ x ∧ m0 ≤ y
    obtain ⟨i, hE | hE⟩ := hE
    · have := wEg_b G hE; omega
    · have := rEg_b G hE (by omega); omega) (fun i _ => by show m0 ≤ 1000000000 ∧ m0 ≤ 1000000000; omega) (Int.le_refl _) (Int.le_refl _) f hf
  have := j.ff
  omega
theorem JV.shutF (j : JV g f m0 A R) (G : GI K g) (hm : 0 ≤ m0 ∧ m0 ≤ 9700000) (hf : (f : Int) < g 0) (ht : (t : Int) < g 0) (hft : f ≠ t) (ho : ¬ opn g f) : A t = 1000000000 := by
  have h := j.dm (fun i => if i = f then m0 else 1000000000) (fun i => if i = f then m0 else 1000000000) (fun o x y hE => by
    obtain ⟨i, hE | hE⟩ := hE
    · have h1 := hE.2.2.2.1
      have h2 := hE.2.2.2.2.2.1
      dsimp only at h2
      by_cases e : i = f
      · subst e; exact absurd h1 ho
      · rw [if_neg e] at h2; omega
    · have h1 := hE.2.2.1
      have h2 := hE.2.2.2.2.1
      dsimp only at h2
      by_cases e : i = f
      · subst e; exact absurd h1 ho
      · rw [if_neg e] at h2; omega) (fun i _ => by split <;> omega) (by rw [if_pos rfl]; omega) (by rw [if_pos rfl]; omega) t ht
  have b := j.bd G hm ht
  rw [if_neg (fun e => hft e.symm)] at h
  omega
theorem JV.shutT (j : JV g f m0 A R) (ht : (t : Int) < g 0) (hft : f ≠ t) (ho : ¬ opn g t) : A t = 1000000000 := by
  rcases j.sa t ht with h | h | ⟨x, y, h1, h2⟩
  · exact h
  · exact absurd h.1.symm hft
  · obtain ⟨i, hE | hE⟩ := h1
    · exact absurd hE.2.2.2.2.1 ho
    · exact absurd hE.2.2.2.1 ho
theorem m_run (G : GI K (μ 1)) (hN : 40000000000 < N) (hm : 0 ≤ m0 ∧ m0 ≤ 9700000) (hf : (f : Int) < μ 1 0) (x1 x2 x3 : Int) : ∃ q s', f_X13_arrival_74 x1 x2 x3 N μ 0 = some q ∧ f_X13_arrival_122 N x2 N (upm (upm q 5 f m0) 6 f m0) 1 = some s' ∧ FM μ s' ∧ JV (μ 1) f m0 (s' 5) (s' 6) ∧ clsd (μ 1) (s' 5) (s' 6) := by
  have hs := G.st
  obtain ⟨q, q1, q2, q3⟩ := m_arr74 (N := N) x1 x2 x3 (by omega) μ
  have fm : FM μ (upm (upm q 5 f m0) 6 f m0) := fun r h1 h2 => by rw [upm_role h2, upm_role h1]; exact q2 r h1 h2
  have e1 := fm 1 (by decide) (by decide)
  have jv : JV (μ 1) f m0 ((upm (upm q 5 f m0) 6 f m0) 5) ((upm (upm q 5 f m0) 6 f m0) 6) := JV.init G hm hf (fun i hi => by
    rw [upm_role (by decide)]
    by_cases e : i = f
    · subst e; rw [upm_same, if_pos rfl]
    · rw [upm_cell e, if_neg e]; exact (q3 i (by omega)).1) (fun i hi => by
    by_cases e : i = f
    · subst e; rw [upm_same, if_pos rfl]
    · rw [upm_cell e, upm_role (by decide), if_neg e]; exact (q3 i (by omega)).2)
  have pb := pot_b G hm jv
  obtain ⟨s', h⟩ := m_arr122 (N := N) G hm (by omega) x2 N _ 1 e1 jv (by omega)
  obtain ⟨h1, h2, h3, h4⟩ := h (by decide)
  exact ⟨q, s', q1, h1, fm.trans h2, h3, h4⟩
/-- what the model answers, beside minutes found in any way -/
theorem m_arrival (G : GI K (μ 1)) (hN : 40000000000 < N) (hm : 0 ≤ m0 ∧ m0 ≤ 9999) (hf : (f : Int) < μ 1 0) (ht : (t : Int) < μ 1 0) (j : JV (μ 1) f m0 A R) (hc : clsd (μ 1) A R) : ∃ μ' w, f_X13_arrival N μ f t m0 = some (μ', w) ∧ (∀ r, r ≠ 5 → r ≠ 6 → r ≠ 11 → μ' r = μ r) ∧ ((A t < 1000000000 ∧ μ' 11 0 = 0 ∧ w = A t) ∨ (A t = 1000000000 ∧ μ' 11 0 = 3)) := by
  have hs := G.st
  have b := j.bd G (by omega) ht
  unfold f_X13_arrival
  rw [m_areStops G, Option.bind_some, if_pos (show (0 ≤ (f : Int) ∧ (f : Int) < μ 1 0) ∧ 0 ≤ (t : Int) ∧ (t : Int) < μ 1 0 by omega), if_neg (by decide), m_in, Option.bind_some, if_pos hm, if_neg (by decide), bl_eq, upm_same, if_pos (by decide)]
  have fr : ∀ r, r ≠ 5 → r ≠ 6 → r ≠ 11 → upm μ 11 0 0 r = μ r := fun r _ _ h => upm_role h
  have e1 : upm μ 11 0 0 1 = μ 1 := upm_role (by decide)
  by_cases e : f = t
  · subst e
    rw [if_pos rfl]
    have := j.start G (by omega) hf
    exact ⟨_, _, rfl, fr, Or.inl ⟨by omega, upm_same _ _ _ _, this.symm⟩⟩
  · rw [if_neg (by omega), m_isOpen (by omega), e1, Option.bind_some]
    by_cases o1 : μ 1 (13 + 2 * f) = 0
    · rw [if_pos o1, if_neg (by decide), m_isOpen (by omega), e1, Option.bind_some]
      by_cases o2 : μ 1 (13 + 2 * t) = 0
      · rw [if_pos o2, if_neg (by decide)]
        obtain ⟨q, s', q1, q2, q3, q4, q5⟩ := m_run (μ := upm μ 11 0 0) (N := N) (m0 := m0) (f := f) (by rw [e1]; exact G) hN (by omega) (by rw [e1]; exact hf) f t m0
        rw [e1] at q4 q5
        have un := JV.uniq G (by omega) q4 q5 j hc ht
        rw [q1, Option.bind_some, if_pos (by omega)]
        simp only [bl_eq, Int.toNat_natCast]
        rw [q2, Option.bind_some, if_pos (by omega), un.1]
        have f11 : s' 11 0 = 0 := by rw [q3 11 (by decide) (by decide), upm_same]
        by_cases z : A t = 1000000000
        · rw [if_pos z]
          refine ⟨upm s' 11 0 3, 0, rfl, fun r h1 h2 h3 => ?_, Or.inr ⟨z, upm_same _ _ _ _⟩⟩
          rw [upm_role h3, q3 r h1 h2, fr r h1 h2 h3]
        · rw [if_neg z]
          refine ⟨s', A t, rfl, fun r h1 h2 h3 => ?_, Or.inl ⟨by omega, f11, rfl⟩⟩
          rw [q3 r h1 h2, fr r h1 h2 h3]
      · rw [if_neg o2, if_pos rfl]
        exact ⟨upm (upm μ 11 0 0) 11 0 3, 0, rfl, fun r h1 h2 h3 => by rw [upm_role h3, upm_role h3], Or.inr ⟨j.shutT ht e o2, upm_same _ _ _ _⟩⟩
    · rw [if_neg o1, if_pos rfl]
      exact ⟨upm (upm μ 11 0 0) 11 0 3, 0, rfl, fun r h1 h2 h3 => by rw [upm_role h3, upm_role h3], Or.inr ⟨j.shutF G (by omega) hf ht e o1, upm_same _ _ _ _⟩⟩
theorem zJy_cases (g : Ga) (x y m : Int) : (zJy g x y m = 0 ∧ (0 ≤ x ∧ x < g 0) ∧ (0 ≤ y ∧ y < g 0) ∧ (0 ≤ m ∧ m ≤ 9999)) ∨ (zJy g x y m = 1 ∧ ¬ ((0 ≤ x ∧ x < g 0) ∧ 0 ≤ y ∧ y < g 0)) ∨ (zJy g x y m = 2 ∧ ((0 ≤ x ∧ x < g 0) ∧ 0 ≤ y ∧ y < g 0) ∧ ¬ (0 ≤ m ∧ m ≤ 9999)) := by
  unfold zJy
  by_cases h : (0 ≤ x ∧ x < g 0) ∧ 0 ≤ y ∧ y < g 0
  · rw [if_pos h]
    by_cases h2 : 0 ≤ m ∧ m ≤ 9999
    · rw [if_pos h2]; exact Or.inl ⟨rfl, h.1, h.2, h2⟩
    · rw [if_neg h2]; exact Or.inr (Or.inr ⟨rfl, h, h2⟩)
  · rw [if_neg h]; exact Or.inr (Or.inl ⟨rfl, h⟩)
theorem m_arr1 (G : GI K (μ 1)) {x y m : Int} (h : ¬ ((0 ≤ x ∧ x < μ 1 0) ∧ 0 ≤ y ∧ y < μ 1 0)) : f_X13_arrival N μ x y m = some (upm μ 11 0 1, 0) := by
  unfold f_X13_arrival
  rw [m_areStops G, Option.bind_some, if_neg h, if_pos rfl, bl_eq, upm_same, if_neg (by decide)]
theorem m_arr2 (G : GI K (μ 1)) {x y m : Int} (h : (0 ≤ x ∧ x < μ 1 0) ∧ 0 ≤ y ∧ y < μ 1 0) (h2 : ¬ (0 ≤ m ∧ m ≤ 9999)) : f_X13_arrival N μ x y m = some (upm μ 11 0 2, 0) := by
  unfold f_X13_arrival
  rw [m_areStops G, Option.bind_some, if_pos h, if_neg (by decide), m_in, Option.bind_some, if_neg h2, if_pos rfl, bl_eq, upm_same, if_neg (by decide)]
theorem op_jy {fc : Option (So Sm)} {fm : Option (Sm × Int)} (I : INV K σ μ) (x y m : Int) (hN : 40000000000 < N) {b : Nat} (hb : 366 ≤ b ∧ b ≤ 371) (hc1 : ∀ z : Int, 1 ≤ z → z ≤ 5 → zJy (μ 1) x y m = z → fc = some (σ, z.toNat, 0)) (hc2 : zJy (μ 1) x y m = 0 → ∀ f t : Nat, x = f → y = t → (f : Int) < μ 1 0 → (t : Int) < μ 1 0 → 0 ≤ m ∧ m ≤ 9999 → ∃ s A R, FRA b σ s ∧ JV (μ 1) f m A R ∧ clsd (μ 1) A R ∧ fc = (if A t < 1000000000 then some (s, 0, A t) else some (s, 4, 0))) (hm : fm = (f_X13_arrival N μ x y m).bind fun v => some (v.1, v.2)) : OK2 fc fm K [(1, 1), (2, 2), (4, 3)] := by
  rcases zJy_cases (μ 1) x y m with ⟨h, h1, h2, h3⟩ | ⟨h, h1⟩ | ⟨h, h1, h2⟩
  · obtain ⟨f, rfl, hf10, hf⟩ := isSt_cases I.gi h1
    obtain ⟨t, rfl, ht10, ht⟩ := isSt_cases I.gi h2
    obtain ⟨s, A, R, c1, c2, c3, c4⟩ := hc2 h f t rfl rfl hf ht h3
    obtain ⟨μ', w, d1, d2, d3⟩ := m_arrival (N := N) I.gi hN h3 hf ht c2 c3
    rw [d1, Option.bind_some] at hm
    have inv : INV K s μ' := ask_ok I d2 (fun r hr => c1 r (by omega))
    rcases d3 with ⟨e1, e2, e3⟩ | ⟨e1, e2⟩
    · rw [if_pos e1] at c4
      exact ⟨s, 0, A t, μ', w, c4, hm, Or.inl ⟨rfl, e2, e3.symm⟩, inv⟩
    · rw [if_neg (by omega)] at c4
      exact ⟨s, 4, 0, μ', w, c4, hm, Or.inr ⟨by decide, by rw [e2]; decide⟩, inv⟩
  · refine OK2.no (z := 1) (w := 1) (v := 0) I (hc1 1 (by decide) (by decide) h) ?_ (by decide) (by decide)
    rw [hm, m_arr1 I.gi h1]; rfl
  · refine OK2.no (z := 2) (w := 2) (v := 0) I (hc1 2 (by decide) (by decide) h) ?_ (by decide) (by decide)
    rw [hm, m_arr2 I.gi h1 h2]; rfl
theorem op_earliestArrival (I : INV K σ μ) (x y m : Int) (hN : 40000000000 < N) : OK2 (f_X12_earliestArrival N σ x y m) (f_X13_earliestArrival N μ x y m) K [(1, 1), (2, 2), (4, 3)] := by
  have hs := I.gi.st
  refine op_jy (b := 366) I x y m hN (by decide) (fun z h1 h2 h => ?_) (fun h f t hx hy hf ht hm => ?_) rfl
  · unfold f_X12_earliestArrival
    rw [cl_ref (z := z) (by rw [c_jyF I.nr, h]) ⟨h1, h2⟩]
  · subst hx; subst hy
    obtain ⟨s, c1, c2, c3, c4⟩ := c_searchEarliest (N := N) I.nr I.gi (I.rw 1 (Or.inl rfl)) (a := 366) (by decide) (by omega) (m0 := m) (by omega) hf
    refine ⟨s, _, _, c2, c3, c4, ?_⟩
    unfold f_X12_earliestArrival
    rw [cl_go (by rw [c_jyF I.nr, h])]
    dsimp only
    rw [c1, Option.bind_some, if_pos (by omega), Int.toNat_natCast]
    unfold f_X12_journeyFound
    show (if s 367 t < 1000000000 then _ else _ : Option (So Sm)).bind _ = _
    by_cases q : s 367 t < 1000000000
    · rw [if_pos q]; rfl
    · rw [if_neg q]; rfl
theorem op_earliestArrivalByRounds (I : INV K σ μ) (x y m : Int) (hN : 40000000000 < N) : OK2 (f_X12_earliestArrivalByRounds N σ x y m) (f_X13_earliestArrivalByRounds N μ x y m) K [(1, 1), (2, 2), (4, 3)] := by
  have hs := I.gi.st
  refine op_jy (b := 371) I x y m hN (by decide) (fun z h1 h2 h => ?_) (fun h f t hx hy hf ht hm => ?_) rfl
  · unfold f_X12_earliestArrivalByRounds
    rw [cl_ref (z := z) (by rw [c_jyF I.nr, h]) ⟨h1, h2⟩]
  · subst hx; subst hy
    obtain ⟨s0, -, -, d3, d4⟩ := c_searchEarliest (N := N) I.nr I.gi (I.rw 1 (Or.inl rfl)) (a := 366) (by decide) (by omega) (m0 := m) (by omega) hf
    obtain ⟨s, c1, c2, c3, c4⟩ := c_searchRounds (N := N) I.nr I.gi (I.rw 1 (Or.inl rfl)) (a := 371) (by decide) (by omega) (m0 := m) (by omega) hf d3 d4
    refine ⟨s, _, _, c2, d3, d4, ?_⟩
    unfold f_X12_earliestArrivalByRounds
    rw [cl_go (by rw [c_jyF I.nr, h])]
    dsimp only
    rw [c1, Option.bind_some, if_pos (by omega), Int.toNat_natCast]
    unfold f_X12_journeyFound
    rw [← (c4 t ht).1]
    show (if s 372 t < 1000000000 then _ else _ : Option (So Sm)).bind _ = _
    by_cases q : s 372 t < 1000000000
    · rw [if_pos q]; rfl
    · rw [if_neg q]; rfl
end JA
