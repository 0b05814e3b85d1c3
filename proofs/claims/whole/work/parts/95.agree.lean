/-! agreement of class and model, part 95 -/
/-! journeys: what one relaxation does -/
def opn (g : Ga) (i : Nat) : Prop := g (13 + 2 * i) = 0
def rxA (A : Ga) (o : Nat) (a : Int) : Ga := upf A o (if a < A o then a else A o)
/-- a walk from s -/
def wEg (g : Ga) (s : Nat) (A R : Ga) (o : Nat) (a r : Int) : Prop := (s : Int) < g 0 ∧ (o : Int) < g 0 ∧ 0 < wlk g s o ∧ opn g s ∧ opn g o ∧ A s < 1000000000 ∧ a = A s + wlk g s o ∧ r = a
/-- a ride from s -/
def rEg (g : Ga) (s : Nat) (A R : Ga) (o : Nat) (a r : Int) : Prop := (s : Int) < g 0 ∧ (o : Int) < g 0 ∧ opn g s ∧ opn g o ∧ R s < 1000000000 ∧ ∃ c p : Nat, ∃ l : Int, (c : Int) < g 2 ∧ run g c = true ∧ (p : Int) < gl g c 5 ∧ gl g c (7 + p) = (s : Int) ∧ (p : Int) < l ∧ l ≤ gl g c 5 ∧ rgs g c l = (o : Int) ∧ a = whn g c (fstt g c p (R s)) l ∧ r = a + g (12 + 2 * o)
def Eg (g : Ga) (A R : Ga) (o : Nat) (a r : Int) : Prop := ∃ s, wEg g s A R o a r ∨ rEg g s A R o a r
def clsd (g : Ga) (A R : Ga) : Prop := ∀ o a r, Eg g A R o a r → A o ≤ a ∧ R o ≤ r
def fin (g : Ga) (A : Ga) : Int := ctk (fun i => A i < 1000000000) (g 0).toNat
/-- what holds of the minutes on the way, from f at m0 -/
def JV (g : Ga) (f : Nat) (m0 : Int) (A : Ga) (R : Ga) : Prop := (∀ i : Nat, (i : Int) < g 0 → (A i = 1000000000 ∧ R i = 1000000000) ∨ (0 ≤ A i ∧ A i ≤ R i ∧ R i ≤ m0 + 400 * fin g A)) ∧ (∀ C D : Ga, clsd g C D → (∀ i : Nat, (i : Int) < g 0 → C i ≤ 1000000000 ∧ D i ≤ 1000000000) → C f ≤ m0 → D f ≤ m0 → ∀ i : Nat, (i : Int) < g 0 → C i ≤ A i ∧ D i ≤ R i) ∧ (∀ i : Nat, (i : Int) < g 0 → A i = 1000000000 ∨ (i = f ∧ A i = m0) ∨ ∃ a r, Eg g A R i a r ∧ a ≤ A i) ∧ (∀ i : Nat, (i : Int) < g 0 → R i = 1000000000 ∨ (i = f ∧ R i = m0) ∨ ∃ a r, Eg g A R i a r ∧ r ≤ R i) ∧ (A f ≤ m0 ∧ R f ≤ m0)
theorem JV.nn {g : Ga} {f : Nat} {m0 : Int} {A : Ga} {R : Ga} (h : JV g f m0 A R) : ∀ i : Nat, (i : Int) < g 0 → (A i = 1000000000 ∧ R i = 1000000000) ∨ (0 ≤ A i ∧ A i ≤ R i ∧ R i ≤ m0 + 400 * fin g A) := h.1
theorem JV.dm {g : Ga} {f : Nat} {m0 : Int} {A : Ga} {R : Ga} (h : JV g f m0 A R) : ∀ C D : Ga, clsd g C D → (∀ i : Nat, (i : Int) < g 0 → C i ≤ 1000000000 ∧ D i ≤ 1000000000) → C f ≤ m0 → D f ≤ m0 → ∀ i : Nat, (i : Int) < g 0 → C i ≤ A i ∧ D i ≤ R i := h.2.1
theorem JV.sa {g : Ga} {f : Nat} {m0 : Int} {A : Ga} {R : Ga} (h : JV g f m0 A R) : ∀ i : Nat, (i : Int) < g 0 → A i = 1000000000 ∨ (i = f ∧ A i = m0) ∨ ∃ a r, Eg g A R i a r ∧ a ≤ A i := h.2.2.1
theorem JV.sr {g : Ga} {f : Nat} {m0 : Int} {A : Ga} {R : Ga} (h : JV g f m0 A R) : ∀ i : Nat, (i : Int) < g 0 → R i = 1000000000 ∨ (i = f ∧ R i = m0) ∨ ∃ a r, Eg g A R i a r ∧ r ≤ R i := h.2.2.2.1
theorem JV.ff {g : Ga} {f : Nat} {m0 : Int} {A : Ga} {R : Ga} (h : JV g f m0 A R) : A f ≤ m0 ∧ R f ≤ m0 := h.2.2.2.2
theorem JV.mk {g : Ga} {f : Nat} {m0 : Int} {A : Ga} {R : Ga} (nn9 : ∀ i : Nat, (i : Int) < g 0 → (A i = 1000000000 ∧ R i = 1000000000) ∨ (0 ≤ A i ∧ A i ≤ R i ∧ R i ≤ m0 + 400 * fin g A)) (dm9 : ∀ C D : Ga, clsd g C D → (∀ i : Nat, (i : Int) < g 0 → C i ≤ 1000000000 ∧ D i ≤ 1000000000) → C f ≤ m0 → D f ≤ m0 → ∀ i : Nat, (i : Int) < g 0 → C i ≤ A i ∧ D i ≤ R i) (sa9 : ∀ i : Nat, (i : Int) < g 0 → A i = 1000000000 ∨ (i = f ∧ A i = m0) ∨ ∃ a r, Eg g A R i a r ∧ a ≤ A i) (sr9 : ∀ i : Nat, (i : Int) < g 0 → R i = 1000000000 ∨ (i = f ∧ R i = m0) ∨ ∃ a r, Eg g A R i a r ∧ r ≤ R i) (ff9 : A f ≤ m0 ∧ R f ≤ m0) : JV g f m0 A R := ⟨nn9, dm9, sa9, sr9, ff9⟩
section JE
variable {g A R C D : Ga} {K m0 : Int} {f s o : Nat} {a r : Int}
theorem rxA_same (A : Ga) (o : Nat) (a : Int) : rxA A o a o = if a < A o then a else A o := upf_eq _ _ _
theorem rxA_ne (A : Ga) {o i : Nat} (a : Int) (h : i ≠ o) : rxA A o a i = A i := upf_ne h
theorem rxA_le (A : Ga) (o i : Nat) (a : Int) : rxA A o a i ≤ A i := by
  by_cases q : i = o
  · subst q; rw [rxA_same]; split <;> omega
  · rw [rxA_ne A a q]; omega
theorem rxA_id {A : Ga} {o : Nat} {a : Int} (h : A o ≤ a) : rxA A o a = A := by
  funext i
  by_cases q : i = o
  · subst q; rw [rxA_same, if_neg (by omega)]
  · rw [rxA_ne A a q]
theorem rgs_rng (G : GI K g) {c : Nat} (hc : c < 5) {l : Int} (hl : 0 ≤ l) (h0 : 0 < gl g c 5) : 0 ≤ rgs g c l ∧ rgs g c l < g 0 := by
  unfold rgs
  split
  · exact (G.li c hc).rg l.toNat (by omega)
  · exact (G.li c hc).rg 0 (by omega)
theorem fstt_mono (G : GI K g) {c : Nat} (hc : (c : Int) < g 2) {p m m' : Int} (hp : 0 ≤ p ∧ p ≤ 6) (hm : 0 ≤ m' ∧ m' ≤ m ∧ m ≤ 10000000) : fstt g c p m' ≤ fstt g c p m := by
  have h1 := fstt_rng G hc hp (m := m') (by omega)
  have h2 := fstt_rng G hc hp (m := m) (by omega)
  by_cases q : fstt g c p m' = 0
  · omega
  · have h3 := (whn_lt G hc (t := fstt g c p m' - 1) (p := p) (m := m') (by omega)).mpr (by omega)
    have h4 := (whn_lt G hc (t := fstt g c p m' - 1) (p := p) (m := m) (by omega)).mp (by omega)
    omega
theorem whn_mono (G : GI K g) {c : Nat} (hc : c < 5) {t t' p : Int} (h : t' ≤ t) : whn g c t' p ≤ whn g c t p := by
  have := Int.mul_le_mul_of_nonneg_right h (G.li c hc).hw.1
  unfold whn; omega
theorem whn_pos (G : GI K g) {c : Nat} (hc : (c : Int) < g 2) {t p l : Int} (h : p < l) : whn g c t p + 1 ≤ whn g c t l ∧ whn g c t l ≤ whn g c t p + 14 * (l - p) := by
  have h1 := hopm_pos G hc
  have h2 := hopm_rng G (c := c) (by have := G.ln; omega)
  have h3 : (l - p) * 1 ≤ (l - p) * hopm g c := Int.mul_le_mul_of_nonneg_left h1 (by omega)
  have h4 : (l - p) * hopm g c ≤ (l - p) * 14 := Int.mul_le_mul_of_nonneg_left h2.2 (by omega)
  have e : (l - p) * hopm g c = l * hopm g c - p * hopm g c := Int.sub_mul ..
  rw [e] at h3 h4
  unfold whn
  omega
theorem fst_whn (G : GI K g) {c : Nat} (hc : (c : Int) < g 2) {p m : Int} (hp : 0 ≤ p ∧ p ≤ 6) (hm : 0 ≤ m ∧ m ≤ 10000000) : m ≤ whn g c (fstt g c p m) p ∧ whn g c (fstt g c p m) p ≤ m + 150 := by
  have hc5 : c < 5 := by have := G.ln; omega
  have h1 := fstt_rng G hc hp hm
  have h2 := whn_lt G hc (t := fstt g c p m) (p := p) (m := m) h1.1
  refine ⟨by omega, ?_⟩
  have L := G.li c hc5
  have h3 := L.hw
  have h4 := L.of
  have h5 := mulb hp (hopm_rng G hc5)
  by_cases q : fstt g c p m = 0
  · rw [q]; unfold whn; omega
  · have h6 := (whn_lt G hc (t := fstt g c p m - 1) (p := p) (m := m) (by omega)).mpr (by omega)
    unfold whn at h6 ⊢
    rw [Int.sub_mul] at h6
    omega
/-- an edge: from whom, how long -/
theorem wEg_b (G : GI K g) (h : wEg g s A R o a r) : A s + 1 ≤ a ∧ a ≤ A s + 30 ∧ r = a := by
  obtain ⟨h1, h2, h3, -, -, -, h4, h5⟩ := h
  have h0 := G.st
  have := G.wl s o (by omega) (by omega)
  unfold wlk at h3 h4
  omega
theorem rEg_b (G : GI K g) (h : rEg g s A R o a r) (hR : 0 ≤ R s ∧ R s ≤ 10000000) : R s + 1 ≤ a ∧ a ≤ R s + 300 ∧ a ≤ r ∧ r ≤ a + 9 := by
  obtain ⟨h1, h2, -, -, -, c, p, l, hc, -, hp, -, hl, hl2, -, ha, hr⟩ := h
  have h0 := G.st
  have hc5 : c < 5 := by have := G.ln; omega
  have sz := (G.li c hc5).sz
  have t := G.tr o (by omega)
  have e1 := fst_whn G hc (p := p) (by omega) hR
  have e2 := whn_pos G hc (t := fstt g c p (R s)) hl
  omega
/-- smaller minutes, smaller minutes behind every edge -/
theorem wEg_mono (h : wEg g s A R o a r) (hA : C s ≤ A s) : ∃ a' r', wEg g s C D o a' r' ∧ a' ≤ a ∧ r' ≤ r := by
  obtain ⟨h1, h2, h3, h4, h5, h6, h7, h8⟩ := h
  exact ⟨C s + wlk g s o, C s + wlk g s o, ⟨h1, h2, h3, h4, h5, by omega, rfl, rfl⟩, by omega, by omega⟩
theorem rEg_mono (G : GI K g) (h : rEg g s A R o a r) (hD : 0 ≤ D s ∧ D s ≤ R s ∧ R s ≤ 10000000) : ∃ a' r', rEg g s C D o a' r' ∧ a' ≤ a ∧ r' ≤ r := by
  obtain ⟨h1, h2, h3, h4, h5, c, p, l, hc, hr, hp, hs, hl, hl2, ho, ha, hr2⟩ := h
  have hc5 : c < 5 := by have := G.ln; omega
  have sz := (G.li c hc5).sz
  have e1 := whn_mono G hc5 (p := l) (fstt_mono G hc (p := p) (by omega) hD)
  exact ⟨whn g c (fstt g c p (D s)) l, whn g c (fstt g c p (D s)) l + g (12 + 2 * o), ⟨h1, h2, h3, h4, by omega, c, p, l, hc, hr, hp, hs, hl, hl2, ho, rfl, rfl⟩, by omega, by omega⟩
theorem fin_rng (G : GI K g) (A : Ga) : 0 ≤ fin g A ∧ fin g A ≤ 10 := by
  have := ctk_rng (fun i => decide (A i < 1000000000)) (g 0).toNat
  have := G.st
  unfold fin; omega
theorem JV.bd (h : JV g f m0 A R) (G : GI K g) (hm : 0 ≤ m0 ∧ m0 ≤ 9700000) {i : Nat} (hi : (i : Int) < g 0) : 0 ≤ A i ∧ A i ≤ 1000000000 ∧ A i ≤ R i ∧ R i ≤ 1000000000 ∧ (A i < 1000000000 → R i ≤ 9710000) ∧ (R i < 1000000000 → A i < 1000000000) := by
  have h1 := h.nn i hi
  have h2 := fin_rng G A
  omega
/-- from a relation that only grows smaller -/
theorem Eg_mono (G : GI K g) (hm : 0 ≤ m0 ∧ m0 ≤ 9700000) (h : JV g f m0 A R) (hE : Eg g A R o a r) (hC : ∀ i : Nat, (i : Int) < g 0 → C i ≤ A i ∧ 0 ≤ D i ∧ D i ≤ R i) : ∃ a' r', Eg g C D o a' r' ∧ a' ≤ a ∧ r' ≤ r := by
  obtain ⟨s, hE | hE⟩ := hE
  · obtain ⟨a', r', q1, q2⟩ := wEg_mono (C := C) (D := D) hE (hC s hE.1).1
    exact ⟨a', r', ⟨s, Or.inl q1⟩, q2⟩
  · have hb := h.bd G hm hE.1
    have hR := hE.2.2.2.2.1
    obtain ⟨a', r', q1, q2⟩ := rEg_mono (C := C) (D := D) G hE ⟨(hC s hE.1).2.1, (hC s hE.1).2.2, by omega⟩
    exact ⟨a', r', ⟨s, Or.inr q1⟩, q2⟩
theorem Eg_src (G : GI K g) (hm : 0 ≤ m0 ∧ m0 ≤ 9700000) (h : JV g f m0 A R) (hE : Eg g A R o a r) : (o : Int) < g 0 ∧ 0 ≤ a ∧ a ≤ r ∧ a < 1000000000 ∧ r ≤ m0 + 400 * fin g A + 399 := by
  obtain ⟨s, hE | hE⟩ := hE
  · have h1 := h.nn s hE.1
    have h2 := wEg_b G hE
    have h3 := hE.2.2.2.2.2.1
    have h4 := fin_rng G A
    exact ⟨hE.2.1, by omega⟩
  · have h1 := h.nn s hE.1
    have hb := h.bd G hm hE.1
    have hR := hE.2.2.2.2.1
    have h2 := rEg_b G hE (by omega)
    have h4 := fin_rng G A
    exact ⟨hE.2.1, by omega⟩
theorem ctk_le {p q : Nat → Bool} : ∀ n, (∀ k, k < n → p k = true → q k = true) → ctk p n ≤ ctk q n := by
  intro n
  induction n with
  | zero => intro _; exact Int.le_refl _
  | succ n ih =>
    intro h
    have h1 := ih (fun k hk => h k (by omega))
    have h2 := h n (by omega)
    unfold ctk
    by_cases q1 : p n = true
    · rw [if_pos q1, if_pos (h2 q1)]; omega
    · rw [if_neg q1]; split <;> omega
theorem ctk_lt {p q : Nat → Bool} {j : Nat} : ∀ n, (∀ k, k < n → p k = true → q k = true) → j < n → p j = false → q j = true → ctk p n + 1 ≤ ctk q n := by
  intro n
  induction n with
  | zero => intro _ h; omega
  | succ n ih =>
    intro h hj hp hq
    unfold ctk
    by_cases e : j = n
    · subst e
      have h1 := ctk_le (p := p) (q := q) j (fun k hk => h k (by omega))
      rw [hp, hq]
      simp; omega
    · have h1 := ih (fun k hk => h k (by omega)) (by omega) hp hq
      have h2 := h n (by omega)
      by_cases q1 : p n = true
      · rw [if_pos q1, if_pos (h2 q1)]; omega
      · rw [if_neg q1]; split <;> omega
theorem rx_le (A R : Ga) (o : Nat) (a r : Int) (i : Nat) : rxA A o a i ≤ A i ∧ rxA R o r i ≤ R i := ⟨rxA_le _ _ _ _, rxA_le _ _ _ _⟩
/-- one relaxation keeps all -/
theorem JV.rx (h : JV g f m0 A R) (G : GI K g) (hm : 0 ≤ m0 ∧ m0 ≤ 9700000) (hE : Eg g A R o a r) : JV g f m0 (rxA A o a) (rxA R o r) := by
  obtain ⟨e1, e2, e3, e4, e5⟩ := Eg_src G hm h hE
  have hb := fun i hi => h.bd G hm (i := i) hi
  have hf := fin_rng G A
  have nnC : ∀ i : Nat, (i : Int) < g 0 → rxA A o a i ≤ A i ∧ 0 ≤ rxA R o r i ∧ rxA R o r i ≤ R i := fun i hi => by
    refine ⟨rxA_le _ _ _ _, ?_, rxA_le _ _ _ _⟩
    have := hb i hi
    by_cases q : i = o
    · subst q; rw [rxA_same]; split <;> omega
    · rw [rxA_ne R r q]; omega
  have mono : ∀ {i : Nat} {x y : Int}, Eg g A R i x y → ∃ x' y', Eg g (rxA A o a) (rxA R o r) i x' y' ∧ x' ≤ x ∧ y' ≤ y := fun hE' => Eg_mono G hm h hE' nnC
  have hfin : fin g A ≤ fin g (rxA A o a) := ctk_le _ (fun k hk hp => by
    have := rxA_le A o k a
    simp only [decide_eq_true_eq] at hp ⊢
    omega)
  have hfin2 : A o = 1000000000 → fin g A + 1 ≤ fin g (rxA A o a) := fun hA => ctk_lt (j := o) _ (fun k hk hp => by
    have := rxA_le A o k a
    simp only [decide_eq_true_eq] at hp ⊢
    omega) (by omega) (by simp [hA]) (by rw [rxA_same, if_pos (by omega)]; simpa using e4)
  apply JV.mk
  · intro i hi
    have h1 := h.nn i hi
    by_cases q : i = o
    · subst q
      rw [rxA_same, rxA_same]
      rcases h1 with h1 | h1
      · have := hfin2 h1.1
        rw [h1.1, h1.2, if_pos (by omega)]
        right
        refine ⟨e2, ?_, ?_⟩
        · split <;> omega
        · split <;> omega
      · right
        refine ⟨?_, ?_, ?_⟩
        · split <;> omega
        · split <;> split <;> omega
        · split <;> omega
    · rw [rxA_ne A a q, rxA_ne R r q]
      rcases h1 with h1 | h1
      · exact Or.inl h1
      · right; omega
  · intro C D hC hCD hf1 hf2 i hi
    have h1 := h.dm C D hC hCD hf1 hf2
    by_cases q : i = o
    · subst q
      have h2 := h1 i hi
      have hE2 : ∃ a' r', Eg g C D i a' r' ∧ a' ≤ a ∧ r' ≤ r := by
        obtain ⟨s, hE | hE⟩ := hE
        · obtain ⟨a', r', q1, q2⟩ := wEg_mono (C := C) (D := D) hE (h1 s hE.1).1
          exact ⟨a', r', ⟨s, Or.inl q1⟩, q2⟩
        · have hbs := hb s hE.1
          have hR := hE.2.2.2.2.1
          by_cases hD : 0 ≤ D s
          · obtain ⟨a', r', q1, q2⟩ := rEg_mono (C := C) (D := D) G hE ⟨hD, (h1 s hE.1).2, by omega⟩
            exact ⟨a', r', ⟨s, Or.inr q1⟩, q2⟩
          · obtain ⟨h1', h2', h3', h4', h5', c, p, l, hc, hr, hp, hs, hl, hl2, ho, ha, hr2⟩ := hE
            have hc5 : c < 5 := by have := G.ln; omega
            have sz := (G.li c hc5).sz
            have e0 : fstt g c p (D s) = fstt g c p 0 := by
              have L := G.li c hc5
              have h9 := mulb (x := p) (A := 6) (by omega) (hopm_rng G hc5)
              have h8 := L.of
              unfold fstt
              rw [if_pos (by omega), if_pos (by omega)]
            have m1 := whn_mono G hc5 (p := l) (fstt_mono G hc (p := p) (m := R s) (m' := 0) (by omega) (by omega))
            refine ⟨whn g c (fstt g c p (D s)) l, whn g c (fstt g c p (D s)) l + g (12 + 2 * i), ⟨s, Or.inr ⟨h1', h2', h3', h4', by omega, c, p, l, hc, hr, hp, hs, hl, hl2, ho, rfl, rfl⟩⟩, ?_, ?_⟩ <;> rw [e0] <;> omega
      obtain ⟨a', r', q1, q2, q3⟩ := hE2
      have h3 := hC i a' r' q1
      rw [rxA_same, rxA_same]
      constructor <;> split <;> omega
    · rw [rxA_ne A a q, rxA_ne R r q]; exact h1 i hi
  · intro i hi
    by_cases q : i = o
    · subst q
      rw [rxA_same]
      by_cases ha : a < A i
      · rw [if_pos ha]
        obtain ⟨a', r', q1, q2, q3⟩ := mono hE
        exact Or.inr (Or.inr ⟨a', r', q1, q2⟩)
      · rw [if_neg ha]
        rcases h.sa i hi with h1 | h1 | ⟨x, y, h1, h2⟩
        · exact Or.inl h1
        · exact Or.inr (Or.inl h1)
        · obtain ⟨a', r', q1, q2, q3⟩ := mono h1
          exact Or.inr (Or.inr ⟨a', r', q1, by omega⟩)
    · rw [rxA_ne A a q]
      rcases h.sa i hi with h1 | h1 | ⟨x, y, h1, h2⟩
      · exact Or.inl h1
      · exact Or.inr (Or.inl h1)
      · obtain ⟨a', r', q1, q2, q3⟩ := mono h1
        exact Or.inr (Or.inr ⟨a', r', q1, by omega⟩)
  · intro i hi
    by_cases q : i = o
    · subst q
      rw [rxA_same]
      by_cases ha : r < R i
      · rw [if_pos ha]
        obtain ⟨a', r', q1, q2, q3⟩ := mono hE
        exact Or.inr (Or.inr ⟨a', r', q1, q3⟩)
      · rw [if_neg ha]
        rcases h.sr i hi with h1 | h1 | ⟨x, y, h1, h2⟩
        · exact Or.inl h1
        · exact Or.inr (Or.inl h1)
        · obtain ⟨a', r', q1, q2, q3⟩ := mono h1
          exact Or.inr (Or.inr ⟨a', r', q1, by omega⟩)
    · rw [rxA_ne R r q]
      rcases h.sr i hi with h1 | h1 | ⟨x, y, h1, h2⟩
      · exact Or.inl h1
      · exact Or.inr (Or.inl h1)
      · obtain ⟨a', r', q1, q2, q3⟩ := mono h1
        exact Or.inr (Or.inr ⟨a', r', q1, by omega⟩)
  · have h1 := h.ff
    have h2 := rxA_le A o f a
    have h3 := rxA_le R o f r
    omega
/-- the beginning -/
theorem JV.init (G : GI K g) (hm : 0 ≤ m0 ∧ m0 ≤ 9700000) (hf : (f : Int) < g 0) (hA : ∀ i : Nat, (i : Int) < g 0 → A i = if i = f then m0 else 1000000000) (hR : ∀ i : Nat, (i : Int) < g 0 → R i = if i = f then m0 else 1000000000) : JV g f m0 A R := by
  have h2 := fin_rng G A
  apply JV.mk
  · intro i hi
    rw [hA i hi, hR i hi]
    by_cases q : i = f
    · rw [if_pos q]; right; omega
    · rw [if_neg q]; left; exact ⟨rfl, rfl⟩
  · intro C D _ hCD h3 h4 i hi
    rw [hA i hi, hR i hi]
    by_cases q : i = f
    · rw [if_pos q]; subst q; exact ⟨h3, h4⟩
    · rw [if_neg q]; exact hCD i hi
  · intro i hi
    rw [hA i hi]
    by_cases q : i = f
    · rw [if_pos q]; exact Or.inr (Or.inl ⟨q, rfl⟩)
    · rw [if_neg q]; exact Or.inl rfl
  · intro i hi
    rw [hR i hi]
    by_cases q : i = f
    · rw [if_pos q]; exact Or.inr (Or.inl ⟨q, rfl⟩)
    · rw [if_neg q]; exact Or.inl rfl
  · rw [hA f hf, hR f hf, if_pos rfl]; omega
/-- two ways, one answer -/
theorem JV.uniq (G : GI K g) (hm : 0 ≤ m0 ∧ m0 ≤ 9700000) (h : JV g f m0 A R) (hc : clsd g A R) (h' : JV g f m0 C D) (hc' : clsd g C D) {i : Nat} (hi : (i : Int) < g 0) : A i = C i ∧ R i = D i := by
  have b1 := fun i hi => h.bd G hm (i := i) hi
  have b2 := fun i hi => h'.bd G hm (i := i) hi
  have e1 := h.dm C D hc' (fun i hi => ⟨(b2 i hi).2.1, (b2 i hi).2.2.2.1⟩) h'.ff.1 h'.ff.2 i hi
  have e2 := h'.dm A R hc (fun i hi => ⟨(b1 i hi).2.1, (b1 i hi).2.2.2.1⟩) h.ff.1 h.ff.2 i hi
  omega
end JE
