/-! agreement of class and model, part 99 -/
/-! the model's rounds -/
def satR (g A R : Ga) (c p : Nat) : Prop := ∀ i : Nat, gl g c (7 + p) = (i : Int) → (i : Int) < g 0 → opn g i → R i ≠ 1000000000 → ∀ l : Int, (p : Int) < l → l ≤ gl g c 5 → ∀ o : Nat, rgs g c l = (o : Int) → opn g o → A o ≤ whn g c (fstt g c p (R i)) l ∧ R o ≤ whn g c (fstt g c p (R i)) l + g (12 + 2 * o)
section MI
variable {μ s : Sm} {g : Ga} {K m0 : Int} {N f : Nat}
theorem ior_z {E : Ga → Ga → Nat → Int → Int → Prop} {s2 : Sm} {f1 f2 : Int} (h : RT g E μ s f1) (h2 : RT g E s s2 f2) (e : ior f1 f2 = 0) : f1 = 0 ∧ f2 = 0 := by
  rw [ior_bit h.fb h2.fb] at e
  by_cases q : f1 = 0 ∧ f2 = 0
  · exact q
  · rw [if_neg q] at e; cases e
theorem m_imp27 (G : GI K g) (hm : 0 ≤ m0 ∧ m0 ≤ 9700000) (hN : 16 < N) (e0 : μ 1 = g) (j : JV g f m0 (μ 5) (μ 6)) {c : Nat} (hc : (c : Int) < g 2) (hr : run g c = true) (v0 : Sm × Int) (h0 : RT g (Eg g) μ v0.1 v0.2) : ∃ v : Sm × Int, f_X13_improves_27 N c N v0.1 v0.2 0 = some v ∧ RT g (Eg g) μ v.1 v.2 ∧ (v.2 = 0 → v0.2 = 0 ∧ ∀ p : Nat, (p : Int) < gl g c 5 → satR g (μ 5) (μ 6) c p) := by
  have hc5 : c < 5 := by have := G.ln; omega
  have sz := (G.li c hc5).sz
  obtain ⟨z, hz⟩ := Int.eq_ofNat_of_zero_le sz.1
  obtain ⟨v, ⟨p1, p2⟩, e⟩ := lp_inv (fun n (v : Sm × Int) k => f_X13_improves_27 N c n v.1 v.2 k) id (fun k v => RT g (Eg g) μ v.1 v.2 ∧ (v.2 = 0 → v0.2 = 0 ∧ ∀ p : Nat, p < k → satR g (μ 5) (μ 6) c p)) z (fun n v hP => by
      have e1 : v.1 1 = g := by rw [hP.1.fm 1 (by decide) (by decide), e0]
      show f_X13_improves_27 N c (n + 1) v.1 v.2 (z : Int) = _
      rw [f_X13_improves_27, m_l5 hc5, e1, Option.bind_some, if_pos (by omega)]; rfl) (fun n k v hk hP => by
      obtain ⟨p1, p2⟩ := hP
      have e1 : v.1 1 = g := by rw [p1.fm 1 (by decide) (by decide), e0]
      have jv := p1.rx.jv G hm j
      have rg := (G.li c hc5).rg k (by omega)
      obtain ⟨i, hi⟩ := Int.eq_ofNat_of_zero_le rg.1
      have his : (i : Int) < g 0 := by omega
      have b := jv.bd G hm his
      obtain ⟨s2, f2, r1, r2, r3⟩ := m_ridesFrom (N := N) (μ := v.1) (g := g) (K := K) (by rw [e1]; exact G) e1 hN his hc hr (p := k) (by omega) hi (fun _ _ => by omega)
      have r2' := r2.mono (E' := Eg g) (fun A R o a r h => ⟨i, Or.inr h⟩)
      refine ⟨(s2, ior v.2 f2), ⟨p1.or r2', fun q => ?_⟩, ?_⟩
      · obtain ⟨q1, q2⟩ := ior_z p1 r2' q
        obtain ⟨q3, q4⟩ := p2 q1
        refine ⟨q3, fun p hp => ?_⟩
        by_cases e : p = k
        · subst e
          intro i' hi' hs' ho' hn'
          have : i' = i := by omega
          subst this
          have ev := p1.id q1
          have es := r2.id q2
          rw [ev] at es
          rw [ev] at r3
          have := (r3 ho' hn').2
          rw [es] at this
          exact this
        · exact q4 p (by omega)
      · show f_X13_improves_27 N c (n + 1) v.1 v.2 (k : Int) = f_X13_improves_27 N c n s2 (ior v.2 f2) ((k + 1 : Nat) : Int)
        rw [f_X13_improves_27, m_l5 hc5, e1, Option.bind_some, if_neg (by omega), r1, Option.bind_some, bl_eq]; rfl) N 0 v0 (by omega) (by omega) ⟨h0, fun q => ⟨q, fun p hp => by omega⟩⟩
  exact ⟨v, e, p1, fun q => ⟨(p2 q).1, fun p hp => (p2 q).2 p (by omega)⟩⟩
theorem m_imp4 (G : GI K g) (hm : 0 ≤ m0 ∧ m0 ≤ 9700000) (hN : 16 < N) (e0 : μ 1 = g) (j : JV g f m0 (μ 5) (μ 6)) : ∃ v : Sm × Int, f_X13_improves_4 N N μ 0 0 = some v ∧ RT g (Eg g) μ v.1 v.2 ∧ (v.2 = 0 → ∀ c p : Nat, (c : Int) < g 2 → run g c = true → (p : Int) < gl g c 5 → satR g (μ 5) (μ 6) c p) := by
  have hl := G.ln
  obtain ⟨z, hz⟩ := Int.eq_ofNat_of_zero_le hl.1
  obtain ⟨v, ⟨p1, p2⟩, e⟩ := lp_inv (fun n (v : Sm × Int) k => f_X13_improves_4 N n v.1 v.2 k) id (fun k v => RT g (Eg g) μ v.1 v.2 ∧ (v.2 = 0 → ∀ c p : Nat, c < k → run g c = true → (p : Int) < gl g c 5 → satR g (μ 5) (μ 6) c p)) z (fun n v hP => by
      have e1 : v.1 1 = g := by rw [hP.1.fm 1 (by decide) (by decide), e0]
      show f_X13_improves_4 N (n + 1) v.1 v.2 (z : Int) = _
      rw [f_X13_improves_4, e1, if_pos (by omega)]; rfl) (fun n k v hk hP => by
      obtain ⟨p1, p2⟩ := hP
      have e1 : v.1 1 = g := by rw [p1.fm 1 (by decide) (by decide), e0]
      by_cases hr : run g k = true
      · obtain ⟨v', r1, r2, r3⟩ := m_imp27 (N := N) G hm hN e0 j (c := k) (by omega) hr v p1
        refine ⟨v', ⟨r2, fun q c p hc hr' hp => ?_⟩, ?_⟩
        · obtain ⟨q1, q2⟩ := r3 q
          by_cases e : c = k
          · subst e; exact q2 p hp
          · exact p2 q1 c p (by omega) hr' hp
        · show f_X13_improves_4 N (n + 1) v.1 v.2 (k : Int) = f_X13_improves_4 N n v'.1 v'.2 ((k + 1 : Nat) : Int)
          rw [f_X13_improves_4, e1, if_neg (by omega), m_isRunning (by omega), e1, Option.bind_some, if_pos hr, if_neg (by decide), r1, Option.bind_some]; rfl
      · refine ⟨v, ⟨p1, fun q c p hc hr' hp => ?_⟩, ?_⟩
        · by_cases e : c = k
          · subst e; exact absurd hr' hr
          · exact p2 q c p (by omega) hr' hp
        · show f_X13_improves_4 N (n + 1) v.1 v.2 (k : Int) = f_X13_improves_4 N n v.1 v.2 ((k + 1 : Nat) : Int)
          rw [f_X13_improves_4, e1, if_neg (by omega), m_isRunning (by omega), e1, Option.bind_some, if_neg hr, if_pos rfl]; rfl) N 0 (μ, 0) (by omega) (by omega) ⟨RT.refl _ _ _, fun q c p hc => by omega⟩
  exact ⟨v, e, p1, fun q c p hc => p2 q c p (by omega)⟩
theorem m_imp60 (G : GI K g) (hm : 0 ≤ m0 ∧ m0 ≤ 9700000) (hN : 16 < N) (e0 : μ 1 = g) (j : JV g f m0 (μ 5) (μ 6)) (v0 : Sm × Int) (h0 : RT g (Eg g) μ v0.1 v0.2) : ∃ v : Sm × Int, f_X13_improves_60 N N v0.1 v0.2 0 = some v ∧ RT g (Eg g) μ v.1 v.2 ∧ (v.2 = 0 → v0.2 = 0 ∧ ∀ i : Nat, (i : Int) < g 0 → ∀ o x y, wEg g i (μ 5) (μ 6) o x y → μ 5 o ≤ x ∧ μ 6 o ≤ y) := by
  have hs := G.st
  obtain ⟨z, hz⟩ := Int.eq_ofNat_of_zero_le hs.1
  obtain ⟨v, ⟨p1, p2⟩, e⟩ := lp_inv (fun n (v : Sm × Int) k => f_X13_improves_60 N n v.1 v.2 k) id (fun k v => RT g (Eg g) μ v.1 v.2 ∧ (v.2 = 0 → v0.2 = 0 ∧ ∀ i : Nat, i < k → ∀ o x y, wEg g i (μ 5) (μ 6) o x y → μ 5 o ≤ x ∧ μ 6 o ≤ y)) z (fun n v hP => by
      have e1 : v.1 1 = g := by rw [hP.1.fm 1 (by decide) (by decide), e0]
      show f_X13_improves_60 N (n + 1) v.1 v.2 (z : Int) = _
      rw [f_X13_improves_60, e1, if_pos (by omega)]; rfl) (fun n k v hk hP => by
      obtain ⟨p1, p2⟩ := hP
      have e1 : v.1 1 = g := by rw [p1.fm 1 (by decide) (by decide), e0]
      have jv := p1.rx.jv G hm j
      have b := jv.bd G hm (i := k) (by omega)
      obtain ⟨s2, f2, r1, r2, r3⟩ := m_walksFrom (N := N) (μ := v.1) (g := g) (K := K) (by rw [e1]; exact G) e1 hN (i := k) (by omega) (fun _ => by omega)
      have r2' := r2.mono (E' := Eg g) (fun A R o a r h => ⟨k, Or.inl h⟩)
      refine ⟨(s2, ior v.2 f2), ⟨p1.or r2', fun q => ?_⟩, ?_⟩
      · obtain ⟨q1, q2⟩ := ior_z p1 r2' q
        obtain ⟨q3, q4⟩ := p2 q1
        refine ⟨q3, fun i hi o x y h => ?_⟩
        by_cases e : i = k
        · subst e
          have ev := p1.id q1
          have es := r2.id q2
          rw [ev] at es
          rw [ev, es] at r3
          exact r3 o x y h
        · exact q4 i (by omega) o x y h
      · show f_X13_improves_60 N (n + 1) v.1 v.2 (k : Int) = f_X13_improves_60 N n s2 (ior v.2 f2) ((k + 1 : Nat) : Int)
        rw [f_X13_improves_60, e1, if_neg (by omega), r1, Option.bind_some, bl_eq]; rfl) N 0 v0 (by omega) (by omega) ⟨h0, fun q => ⟨q, fun i hi => by omega⟩⟩
  exact ⟨v, e, p1, fun q => ⟨(p2 q).1, fun i hi => (p2 q).2 i (by omega)⟩⟩
theorem m_improves (G : GI K g) (hm : 0 ≤ m0 ∧ m0 ≤ 9700000) (hN : 16 < N) (e0 : μ 1 = g) (j : JV g f m0 (μ 5) (μ 6)) : ∃ s fl, f_X13_improves N μ = some (s, fl) ∧ RT g (Eg g) μ s fl ∧ (fl = 0 → clsd g (μ 5) (μ 6)) := by
  obtain ⟨v, a1, a2, a3⟩ := m_imp4 (N := N) G hm hN e0 j
  obtain ⟨w, b1, b2, b3⟩ := m_imp60 (N := N) G hm hN e0 j v a2
  refine ⟨w.1, w.2, ?_, b2, fun q => ?_⟩
  · unfold f_X13_improves
    rw [a1, Option.bind_some, b1, Option.bind_some]
  · obtain ⟨q1, q2⟩ := b3 q
    have q3 := a3 q1
    intro o a r h
    obtain ⟨i, h | h⟩ := h
    · exact q2 i h.1 o a r h
    · obtain ⟨h1, h2, h3, h4, h5, c, p, l, hc, hr, hp, hs, hl, hl2, hro, ha, hr2⟩ := h
      have := q3 c p hc hr hp i hs h1 h3 (by omega) l hl hl2 o hro h4
      rw [hr2, ha]; exact this
theorem pot_b (G : GI K g) (hm : 0 ≤ m0 ∧ m0 ≤ 9700000) {A R : Ga} (j : JV g f m0 A R) : 0 ≤ pot g A R ∧ pot g A R ≤ 20000000000 := by
  have h0 := G.st
  have hb : ∀ k : Nat, k < (g 0).toNat → 0 ≤ A k + R k ∧ A k + R k ≤ 2000000000 := fun k hk => by
    have := j.bd G hm (i := k) (by omega)
    omega
  unfold pot
  have key : ∀ n : Nat, n ≤ (g 0).toNat → 0 ≤ smk (fun i => A i + R i) n ∧ smk (fun i => A i + R i) n ≤ 2000000000 * n := by
    intro n
    induction n with
    | zero => intro _; simp [smk]
    | succ n ih =>
      intro hn
      have h1 := ih (by omega)
      have h2 := hb n (by omega)
      unfold smk
      omega
  have := key _ (Nat.le_refl _)
  omega
/-- rounds until nothing grows better -/
theorem m_arr122 (G : GI K g) (hm : 0 ≤ m0 ∧ m0 ≤ 9700000) (hN : 16 < N) (x2 : Int) : ∀ (n : Nat) (s : Sm) (x4 : Int), s 1 = g → JV g f m0 (s 5) (s 6) → pot g (s 5) (s 6) + 2 ≤ n → ∃ s' , (x4 ≠ 0 → f_X13_arrival_122 N x2 n s x4 = some s' ∧ FM s s' ∧ JV g f m0 (s' 5) (s' 6) ∧ clsd g (s' 5) (s' 6)) := by
  intro n
  induction n with
  | zero => intro s x4 _ j h; have := pot_b G hm j; omega
  | succ n ih =>
    intro s x4 e0 j hp
    obtain ⟨s1, fl, r1, r2, r3⟩ := m_improves (N := N) G hm hN e0 j
    have pb := pot_b G hm j
    by_cases q : fl = 0
    · refine ⟨s, fun hx => ⟨?_, FM.refl _, j, r3 q⟩⟩
      obtain ⟨m, rfl⟩ : ∃ k, n = k + 1 := ⟨n - 1, by omega⟩
      rw [f_X13_arrival_122, if_neg hx, r1, Option.bind_some]
      dsimp only
      rw [q, f_X13_arrival_122, if_pos rfl, r2.id q]
    · have jv := r2.rx.jv G hm j
      have hpt := r2.pt q
      obtain ⟨s', h⟩ := ih s1 fl (by rw [r2.fm 1 (by decide) (by decide), e0]) jv (by omega)
      obtain ⟨h1, h2, h3, h4⟩ := h q
      refine ⟨s', fun hx => ⟨?_, r2.fm.trans h2, h3, h4⟩⟩
      rw [f_X13_arrival_122, if_neg hx, r1, Option.bind_some]
      exact h1
theorem m_arr74 (x1 x2 x3 : Int) (hN : 16 < N) (μ : Sm) : ∃ s, f_X13_arrival_74 x1 x2 x3 N μ 0 = some s ∧ FM μ s ∧ ∀ i : Nat, i < 10 → s 5 i = 1000000000 ∧ s 6 i = 1000000000 := by
  obtain ⟨v, ⟨p1, p2⟩, e⟩ := lp_inv (fun n (v : Sm) k => f_X13_arrival_74 x1 x2 x3 n v k) id (fun k v => FM μ v ∧ ∀ i : Nat, i < k → v 5 i = 1000000000 ∧ v 6 i = 1000000000) 10 (fun n v hP => by
      show f_X13_arrival_74 x1 x2 x3 (n + 1) v ((10 : Nat) : Int) = _
      rw [f_X13_arrival_74, if_pos (by omega)]; rfl) (fun n k v hk hP => by
      obtain ⟨p1, p2⟩ := hP
      refine ⟨upm (upm v 5 k 1000000000) 6 k 1000000000, ⟨fun r h1 h2 => ?_, fun i hi => ?_⟩, ?_⟩
      · rw [upm_role h2, upm_role h1]; exact p1 r h1 h2
      · by_cases e : i = k
        · subst e
          rw [upm_role (by decide), upm_same, upm_same]; exact ⟨rfl, rfl⟩
        · rw [upm_role (by decide), upm_cell e, upm_cell e, upm_role (by decide)]
          exact p2 i (by omega)
      · show f_X13_arrival_74 x1 x2 x3 (n + 1) v (k : Int) = f_X13_arrival_74 x1 x2 x3 n _ ((k + 1 : Nat) : Int)
        rw [f_X13_arrival_74, if_neg (by omega), if_pos (by omega)]
        simp only [bl_eq, Int.toNat_natCast]; rfl) N 0 μ (by omega) (by omega) ⟨FM.refl _, fun i hi => by omega⟩
  exact ⟨v, e, p1, p2⟩
end MI
