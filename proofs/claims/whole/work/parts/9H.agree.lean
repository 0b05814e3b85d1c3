/-! agreement of class and model, part 9H -/
/-! the boardings' answers -/
section MO
variable {σ μ : Sm} {g L C : Ga} {K x y : Int} {N f t i j c : Nat}
theorem m_ridden (G : GI K (μ 1)) (hN : 16 < N) (hx : mset (μ 1) x) : ∃ y, f_X13_ridden N μ x = some y ∧ mset (μ 1) y ∧ (∀ j, bs x j = true → bs y j = true) ∧ (∀ j, bs y j = true → bs x j = true ∨ ∃ i, bs x i = true ∧ rX (μ 1) i j) ∧ ∀ i j, bs x i = true → rX (μ 1) i j → bs y j = true := by
  have hl := G.ln
  obtain ⟨z, hz⟩ := Int.eq_ofNat_of_zero_le hl.1
  obtain ⟨v, ⟨p1, p2, p3, p4⟩, e⟩ := lp_inv (fun n (v : Int) k => f_X13_ridden_4 N μ x n v k) id (fun k v => mset (μ 1) v ∧ (∀ j, bs x j = true → bs v j = true) ∧ (∀ j, bs v j = true → bs x j = true ∨ ∃ i, bs x i = true ∧ rX (μ 1) i j) ∧ ∀ i j c : Nat, c < k → bs x i = true → (i : Int) < μ 1 0 → (j : Int) < μ 1 0 → opn (μ 1) i → opn (μ 1) j → hit (μ 1) i j c → bs v j = true) z (fun n' v hP => by
      show f_X13_ridden_4 N μ x (n' + 1) v (z : Int) = _
      rw [f_X13_ridden_4, if_pos (by omega)]; rfl) (fun n' k v hk hP => by
      obtain ⟨p1, p2, p3, p4⟩ := hP
      have hc5 : k < 5 := by omega
      have sz := (G.li k hc5).sz
      by_cases hr : run (μ 1) k = true
      · have rs := run_sz hr
        obtain ⟨w, w1, w2, w3, w4, w5⟩ := m_r31 (N := N) (c := k) G hN (by omega) hr hx p1
        refine ⟨w, ⟨w2, fun j h => w3 j (p2 j h), fun j hj => ?_, fun i j c hc hxi hi hj ho ho2 hh => ?_⟩, ?_⟩
        · rcases w4 j hj with h | ⟨l, l1, l2, l3, l4, p, i, a1, a2, a3, a4⟩
          · exact p3 j h
          · right
            have rr := rgs_rng G hc5 l1 (by omega)
            refine ⟨i, a3, hx.2.2 i a3, by omega, a4, l4, k, by omega, hr, p, l, by omega, ?_, a1, l2, l3⟩
            unfold rgs at a2
            rw [if_pos (by omega), Int.toNat_natCast] at a2
            exact a2
        · by_cases e : c = k
          · subst e
            obtain ⟨-, p, l, b1, b2, b3, b4, b5⟩ := hh
            refine w5 l j (by omega) b4 b5 ho2 ⟨p, i, b3, ?_, hxi, ho⟩
            unfold rgs
            rw [if_pos b1, Int.toNat_natCast]; exact b2
          · exact w3 j (p4 i j c (by omega) hxi hi hj ho ho2 hh)
        · show f_X13_ridden_4 N μ x (n' + 1) v (k : Int) = _
          rw [f_X13_ridden_4, if_neg (by omega), m_isRunning hc5, Option.bind_some, if_pos hr, if_neg (by decide), w1, Option.bind_some]; rfl
      · refine ⟨v, ⟨p1, p2, p3, fun i j c hc hxi hi hj ho ho2 hh => ?_⟩, ?_⟩
        · by_cases e : c = k
          · subst e; exact absurd hh.1 hr
          · exact p4 i j c (by omega) hxi hi hj ho ho2 hh
        · show f_X13_ridden_4 N μ x (n' + 1) v (k : Int) = _
          rw [f_X13_ridden_4, if_neg (by omega), m_isRunning hc5, Option.bind_some, if_neg hr, if_pos rfl]; rfl) N 0 x (by omega) (by omega) ⟨hx, fun _ h => h, fun j h => Or.inl h, fun i j c hc => by omega⟩
  refine ⟨v, ?_, p1, p2, p3, fun i j h hw => ?_⟩
  · unfold f_X13_ridden
    rw [show f_X13_ridden_4 N μ x N x 0 = some v from e]; rfl
  · obtain ⟨h1, h2, h3, h4, c, h5, h6⟩ := hw
    exact p4 i j c (by omega) h h1 h2 h3 h4 h6
/-- the stops that k boardings reach -/
def BM (g : Ga) (f : Nat) (L : Ga) (k : Nat) (x : Int) : Prop := (mset g x) ∧ (∃ C : Ga, bcl g C ∧ (∀ i : Nat, (i : Int) < g 0 → 0 ≤ C i ∧ C i ≤ (k : Int) + 1) ∧ C f ≤ 0 ∧ ∀ i : Nat, (i : Int) < g 0 → (C i ≤ k ↔ bs x i = true)) ∧ (∀ i : Nat, bs x i = true → L i ≤ k)
theorem BM.ms {g : Ga} {f : Nat} {L : Ga} {k : Nat} {x : Int} (h : BM g f L k x) : mset g x := h.1
theorem BM.cc {g : Ga} {f : Nat} {L : Ga} {k : Nat} {x : Int} (h : BM g f L k x) : ∃ C : Ga, bcl g C ∧ (∀ i : Nat, (i : Int) < g 0 → 0 ≤ C i ∧ C i ≤ (k : Int) + 1) ∧ C f ≤ 0 ∧ ∀ i : Nat, (i : Int) < g 0 → (C i ≤ k ↔ bs x i = true) := h.2.1
theorem BM.l {g : Ga} {f : Nat} {L : Ga} {k : Nat} {x : Int} (h : BM g f L k x) : ∀ i : Nat, bs x i = true → L i ≤ k := h.2.2
theorem BM.mk {g : Ga} {f : Nat} {L : Ga} {k : Nat} {x : Int} (ms9 : mset g x) (cc9 : ∃ C : Ga, bcl g C ∧ (∀ i : Nat, (i : Int) < g 0 → 0 ≤ C i ∧ C i ≤ (k : Int) + 1) ∧ C f ≤ 0 ∧ ∀ i : Nat, (i : Int) < g 0 → (C i ≤ k ↔ bs x i = true)) (l9 : ∀ i : Nat, bs x i = true → L i ≤ k) : BM g f L k x := ⟨ms9, cc9, l9⟩
theorem BM.step {k : Nat} {x y w : Int} (hk : k ≤ 10) (b : BV g f L) (h : BM g f L k x) (y2 : ∀ j, bs x j = true → bs y j = true) (y3 : ∀ j, bs y j = true → bs x j = true ∨ ∃ i, bs x i = true ∧ rX g i j) (y4 : ∀ i j, bs x i = true → rX g i j → bs y j = true) (w1 : mset g w) (w2 : ∀ j, bs y j = true → bs w j = true) (w3 : byW g y w) (w4 : ∀ i j, bs w i = true → wX g i j → bs w j = true) (hf : (f : Int) < g 0) : BM g f L (k + 1) w := by
  obtain ⟨C, c1, c2, c3, c4⟩ := h.cc
  refine BM.mk w1 ⟨fun i => if bs x i = true then C i else if bs w i = true then (k : Int) + 1 else (k : Int) + 2, ⟨fun i j hw => ?_, fun i j hw hl => ?_⟩, fun i hi => ?_, ?_, fun i hi => ?_⟩ (fun i hi => ?_)
  · show (if bs x j = true then C j else if bs w j = true then (k : Int) + 1 else (k : Int) + 2) ≤ (if bs x i = true then C i else if bs w i = true then (k : Int) + 1 else (k : Int) + 2)
    have d := c1.1 i j hw
    have ri := c2 i hw.1
    have rj := c2 j hw.2.1
    have ei := c4 i hw.1
    have ej := c4 j hw.2.1
    by_cases q : bs x i = true
    · have q1 : bs x j = true := ej.mp (by have := ei.mpr q; omega)
      rw [if_pos q, if_pos q1]; exact d
    · rw [if_neg q]
      by_cases q2 : bs w i = true
      · have q3 := w4 i j q2 hw
        rw [if_pos q2]
        split
        · omega
        · omega
      · rw [if_neg q2]
        split
        · omega
        · split <;> omega
  · show (if bs x j = true then C j else if bs w j = true then (k : Int) + 1 else (k : Int) + 2) ≤ (if bs x i = true then C i else if bs w i = true then (k : Int) + 1 else (k : Int) + 2) + 1
    have ri := c2 i hw.1
    have rj := c2 j hw.2.1
    have ei := c4 i hw.1
    have ej := c4 j hw.2.1
    by_cases q : bs x i = true
    · have d := c1.2 i j hw (by omega)
      have q1 := w2 j (y4 i j q hw)
      rw [if_pos q]
      by_cases q4 : bs x j = true
      · rw [if_pos q4]; exact d
      · rw [if_neg q4, if_pos q1]
        have : ¬ C j ≤ (k : Int) := fun h => q4 (ej.mp h)
        omega
    · rw [if_neg q]
      split <;> split
      · omega
      · omega
      · split <;> omega
      · split <;> omega
  · show 0 ≤ (if bs x i = true then C i else if bs w i = true then (k : Int) + 1 else (k : Int) + 2) ∧ (if bs x i = true then C i else if bs w i = true then (k : Int) + 1 else (k : Int) + 2) ≤ ((k + 1 : Nat) : Int) + 1
    have ri := c2 i hi
    split
    · omega
    · split <;> omega
  · show (if bs x f = true then C f else if bs w f = true then (k : Int) + 1 else (k : Int) + 2) ≤ 0
    rw [if_pos ((c4 f hf).mp (by omega))]; exact c3
  · show (if bs x i = true then C i else if bs w i = true then (k : Int) + 1 else (k : Int) + 2) ≤ ((k + 1 : Nat) : Int) ↔ _
    have ei := c4 i hi
    by_cases q : bs x i = true
    · rw [if_pos q]
      have := ei.mpr q
      exact ⟨fun _ => w2 i (y2 i q), fun _ => by omega⟩
    · rw [if_neg q]
      by_cases q2 : bs w i = true
      · rw [if_pos q2]; exact ⟨fun _ => q2, fun _ => by omega⟩
      · rw [if_neg q2]; exact ⟨fun h => by omega, fun h => absurd h q2⟩
  · refine w3 (fun i => L i ≤ ((k + 1 : Nat) : Int)) (fun i j hw h => ?_) (fun j hj => ?_) i hi
    · have h1 := b.cl.1 i j hw
      have h2 : L i ≤ ((k + 1 : Nat) : Int) := h
      show L j ≤ ((k + 1 : Nat) : Int)
      omega
    · show L j ≤ ((k + 1 : Nat) : Int)
      rcases y3 j hj with h1 | ⟨i, h1, h2⟩
      · have := h.l j h1; omega
      · have h3 := h.l i h1
        have := b.cl.2 i j h2 (by omega)
        omega
theorem BM.lo {k : Nat} (h : BM g f L k x) (b : BV g f L) (hk : k ≤ 10) (ht : (t : Int) < g 0) (hn : ¬ bs x t = true) : (k : Int) + 1 ≤ L t := by
  obtain ⟨C, c1, c2, c3, c4⟩ := h.cc
  have h1 := b.dm C c1 (fun i hi => by have := c2 i hi; omega) c3 t ht
  have h2 : ¬ C t ≤ (k : Int) := fun h => hn ((c4 t ht).mp h)
  omega
theorem BM.has {k : Nat} (h : BM g f L k x) (hf : (f : Int) < g 0) : bs x f = true := by
  obtain ⟨C, c1, c2, c3, c4⟩ := h.cc
  exact (c4 f hf).mp (by omega)
theorem m_b55 (G : GI K (μ 1)) (hN : 16 < N) (b : BV (μ 1) f L) (hf : (f : Int) < μ 1 0) (ht : (t : Int) < μ 1 0) : ∀ (n k : Nat) (x : Int), k ≤ 11 → 11 - k < n → (k ≤ 10 → BM (μ 1) f L k x) → (k : Int) ≤ L t → (∃ r : Int, f_X13_boardings_55 N μ t n x k = some (.inl (μ, r)) ∧ L t = r ∧ r ≤ 10) ∨ (f_X13_boardings_55 N μ t n x k = some (.inr ()) ∧ 11 ≤ L t) := by
  intro n
  have hs := G.st
  induction n with
  | zero => intro k x _ h; omega
  | succ n ih =>
    intro k x hk hn hb hl
    rw [f_X13_boardings_55]
    by_cases e : 10 < (k : Int)
    · rw [if_pos e]; exact Or.inr ⟨rfl, by omega⟩
    · have B := hb (by omega)
      rw [if_neg e, m_has B.ms.1 (by omega), Option.bind_some]
      by_cases q : bs x t = true
      · rw [if_pos q, if_neg (by decide)]
        have := B.l t q
        exact Or.inl ⟨k, rfl, by omega, by omega⟩
      · rw [if_neg q, if_pos rfl]
        obtain ⟨y, y0, y1, y2, y3, y4⟩ := m_ridden (N := N) G hN B.ms
        obtain ⟨w, w0, w1, w2, w3, w4⟩ := m_walked (N := N) G hN y1 hf (y2 f (B.has hf))
        rw [y0, Option.bind_some, w0, Option.bind_some]
        exact ih (k + 1) w (by omega) (by omega) (fun _ => B.step (by omega) b y2 y3 y4 w1 w2 w3 w4 hf) (by have := B.lo b (by omega) ht q; omega)
theorem m_boardings (G : GI K (μ 1)) (hN : 16 < N) (b : BV (μ 1) f L) (hL : L t < 10 ∨ L t = 1000000000) (hf : (f : Int) < μ 1 0) (ht : (t : Int) < μ 1 0) : ∃ μ' w, f_X13_boardings N μ f t = some (μ', w) ∧ (∀ r, r ≠ 5 → r ≠ 6 → r ≠ 11 → μ' r = μ r) ∧ ((L t < 1000000000 ∧ μ' 11 0 = 0 ∧ w = L t) ∨ (L t = 1000000000 ∧ μ' 11 0 = 2)) := by
  have hs := G.st
  have fr : ∀ r, r ≠ 5 → r ≠ 6 → r ≠ 11 → upm μ 11 0 0 r = μ r := fun r _ _ h => upm_role h
  have e1 : upm μ 11 0 0 1 = μ 1 := upm_role (by decide)
  have fl : ∃ μ' w, (f_X13_fail (upm μ 11 0 0) 2).bind (fun v => some (v.1, v.2)) = some (μ', w) ∧ (∀ r, r ≠ 5 → r ≠ 6 → r ≠ 11 → μ' r = μ r) ∧ μ' 11 0 = 2 := ⟨upm (upm μ 11 0 0) 11 0 2, 0, rfl, fun r _ _ h => by rw [upm_role h, upm_role h], upm_same _ _ _ _⟩
  unfold f_X13_boardings
  rw [m_areStops G, Option.bind_some, if_pos (show (0 ≤ (f : Int) ∧ (f : Int) < μ 1 0) ∧ 0 ≤ (t : Int) ∧ (t : Int) < μ 1 0 by omega), ck1, Option.bind_some]
  dsimp only
  rw [if_pos (by decide)]
  by_cases e : f = t
  · subst e
    rw [if_pos rfl]
    have h1 := b.ff
    have h2 := b.rg f hf
    exact ⟨_, _, rfl, fr, Or.inl ⟨by omega, upm_same _ _ _ _, by omega⟩⟩
  · rw [if_neg (by omega), m_isOpen (by omega), e1, Option.bind_some]
    by_cases o1 : μ 1 (13 + 2 * f) = 0
    · rw [if_pos o1, if_neg (by decide), m_isOpen (by omega), e1, Option.bind_some]
      by_cases o2 : μ 1 (13 + 2 * t) = 0
      · have pb := ior_lt (x := 0) (by decide) (j := f) (by omega)
        have one := mset_one (g := μ 1) (j := f) hs.2 hf
        have GG : GI K (upm μ 11 0 0 1) := by rw [e1]; exact G
        have m1' : mset (upm μ 11 0 0 1) (1 * 2 ^ f) := by rw [e1]; exact one.1
        rw [if_pos o2, if_neg (by decide), if_pos (by omega), Int.toNat_natCast, if_pos (by have := one.1.1; have := one.1.2.1; unfold rng; omega)]
        obtain ⟨w, w0, w1, w2, w3, w4⟩ := m_walked (μ := upm μ 11 0 0) (N := N) (f := f) (x := 1 * 2 ^ f) GG hN m1' (by rw [e1]; exact hf) ((one.2 f).mpr rfl)
        rw [e1] at w1 w3 w4
        have b0 : BM (μ 1) f L 0 w := by
          refine BM.mk w1 ⟨fun i => if bs w i = true then 0 else 1, ⟨fun i j hw => ?_, fun i j hw hl => ?_⟩, fun i hi => ?_, ?_, fun i hi => ?_⟩ (fun i hi => ?_)
          · show (if bs w j = true then (0 : Int) else 1) ≤ if bs w i = true then 0 else 1
            by_cases q : bs w i = true
            · rw [if_pos q, if_pos (w4 i j q hw)]; omega
            · rw [if_neg q]; split <;> omega
          · show (if bs w j = true then (0 : Int) else 1) ≤ (if bs w i = true then 0 else 1) + 1
            split <;> split <;> omega
          · show 0 ≤ (if bs w i = true then (0 : Int) else 1) ∧ (if bs w i = true then (0 : Int) else 1) ≤ ((0 : Nat) : Int) + 1
            split <;> omega
          · show (if bs w f = true then (0 : Int) else 1) ≤ 0
            rw [if_pos (w2 f ((one.2 f).mpr rfl))]; omega
          · show (if bs w i = true then (0 : Int) else 1) ≤ ((0 : Nat) : Int) ↔ _
            by_cases q : bs w i = true
            · rw [if_pos q]; exact ⟨fun _ => q, fun _ => by omega⟩
            · rw [if_neg q]; exact ⟨fun h => by omega, fun h => absurd h q⟩
          · refine w3 (fun i => L i ≤ ((0 : Nat) : Int)) (fun i j hw h => ?_) (fun j hj => ?_) i hi
            · have h1 := b.cl.1 i j hw
              have h2 : L i ≤ ((0 : Nat) : Int) := h
              show L j ≤ ((0 : Nat) : Int)
              omega
            · have := (one.2 j).mp hj
              subst this
              exact b.ff
        have b0' : BM (upm μ 11 0 0 1) f L 0 w := by rw [e1]; exact b0
        have key := m_b55 (μ := upm μ 11 0 0) (N := N) (f := f) (t := t) (L := L) GG hN (by rw [e1]; exact b) (by rw [e1]; exact hf) (by rw [e1]; exact ht) N 0 w (by omega) (by omega) (fun _ => b0') (b.rg t ht).1
        rw [w0, Option.bind_some]
        rcases key with ⟨r, k1, k2, k3⟩ | ⟨k1, k2⟩
        · rw [show f_X13_boardings_55 N (upm μ 11 0 0) t N w 0 = _ from k1]
          exact ⟨_, r, rfl, fr, Or.inl ⟨by omega, upm_same _ _ _ _, k2.symm⟩⟩
        · rw [show f_X13_boardings_55 N (upm μ 11 0 0) t N w 0 = _ from k1]
          obtain ⟨μ', w', f1, f2, f3⟩ := fl
          exact ⟨μ', w', f1, f2, Or.inr ⟨by omega, f3⟩⟩
      · rw [if_neg o2, if_pos rfl]
        obtain ⟨μ', w', f1, f2, f3⟩ := fl
        exact ⟨μ', w', f1, f2, Or.inr ⟨b.shutT ht (fun h => e h.symm) o2, f3⟩⟩
    · rw [if_neg o1, if_pos rfl]
      obtain ⟨μ', w', f1, f2, f3⟩ := fl
      exact ⟨μ', w', f1, f2, Or.inr ⟨b.shutF ht (fun h => e h.symm) o1, f3⟩⟩
theorem zSP_cases (g : Ga) (x y : Int) : (zSS g x y = 0 ∧ (0 ≤ x ∧ x < g 0) ∧ (0 ≤ y ∧ y < g 0)) ∨ (zSS g x y = 1 ∧ ¬ ((0 ≤ x ∧ x < g 0) ∧ 0 ≤ y ∧ y < g 0)) := by
  unfold zSS
  by_cases h : (0 ≤ x ∧ x < g 0) ∧ 0 ≤ y ∧ y < g 0
  · rw [if_pos h]; exact Or.inl ⟨rfl, h.1, h.2⟩
  · rw [if_neg h]; exact Or.inr ⟨rfl, h⟩
theorem op_bo {fc : Option (So Sm)} {fm : Option (Sm × Int)} (I : INV K σ μ) (x y : Int) (hN : 200 < N) (hc1 : zSS (μ 1) x y = 1 → fc = some (σ, 1, 0)) (hc2 : zSS (μ 1) x y = 0 → ∀ f t : Nat, x = f → y = t → (f : Int) < μ 1 0 → (t : Int) < μ 1 0 → ∃ s L, (∀ r, (r < 366 ∨ 386 ≤ r) → s r = σ r) ∧ BV (μ 1) f L ∧ fc = (if L t < 1000000000 then some (s, 0, L t) else some (s, 4, 0))) (hm : fm = (f_X13_boardings N μ x y).bind fun v => some (v.1, v.2)) : OK2 fc fm K [(1, 1), (4, 2)] := by
  rcases zSP_cases (μ 1) x y with ⟨h, h1, h2⟩ | ⟨h, h1⟩
  · obtain ⟨f, rfl, hf10, hf⟩ := isSt_cases I.gi h1
    obtain ⟨t, rfl, ht10, ht⟩ := isSt_cases I.gi h2
    obtain ⟨s, L, c1, c2, c3⟩ := hc2 h f t rfl rfl hf ht
    obtain ⟨_, -, -, v1, v2⟩ := c_leastB (N := N) I.nr I.gi (I.rw 1 (Or.inl rfl)) hN hf
    have hL : L t < 10 ∨ L t = 1000000000 := by rw [c2.uniq v1 ht]; exact v2 t ht
    obtain ⟨μ', w, d1, d2, d3⟩ := m_boardings (N := N) I.gi (by omega) c2 hL hf ht
    rw [d1, Option.bind_some] at hm
    have inv : INV K s μ' := ask_ok I d2 c1
    rcases d3 with ⟨e1, e2, e3⟩ | ⟨e1, e2⟩
    · rw [if_pos e1] at c3
      exact ⟨s, 0, L t, μ', w, c3, hm, Or.inl ⟨rfl, e2, e3.symm⟩, inv⟩
    · rw [if_neg (by omega)] at c3
      exact ⟨s, 4, 0, μ', w, c3, hm, Or.inr ⟨by decide, by rw [e2]; decide⟩, inv⟩
  · refine OK2.no (z := 1) (w := 1) (v := 0) I (hc1 h) ?_ (by decide) (by decide)
    rw [hm]
    unfold f_X13_boardings
    rw [m_areStops I.gi, Option.bind_some, if_neg h1, ck0, Option.bind_some]
    dsimp only
    rw [if_neg (by decide)]; rfl
theorem op_fewestBoardings (I : INV K σ μ) (x y : Int) (hN : 200 < N) : OK2 (f_X12_fewestBoardings N σ x y) (f_X13_fewestBoardings N μ x y) K [(1, 1), (4, 2)] := by
  have hs := I.gi.st
  refine op_bo I x y hN (fun h => ?_) (fun h f t hx hy hf ht => ?_) rfl
  · unfold f_X12_fewestBoardings
    rw [cl_ref (z := 1) (by rw [c_pairF I.nr, h]) (by decide)]; rfl
  · subst hx; subst hy
    obtain ⟨s, c1, c2, c3, c4⟩ := c_leastB (N := N) I.nr I.gi (I.rw 1 (Or.inl rfl)) hN hf
    refine ⟨s, _, fun r hr => c2 r (by omega), c3, ?_⟩
    unfold f_X12_fewestBoardings
    rw [cl_go (by rw [c_pairF I.nr, h])]
    dsimp only
    rw [c1, Option.bind_some, if_pos (by omega), Int.toNat_natCast]
    unfold f_X12_journeyFound
    by_cases q : s 377 t < 1000000000
    · rw [if_pos q]; rfl
    · rw [if_neg q]; rfl
theorem op_fewestBoardingsByTable (I : INV K σ μ) (x y : Int) (hN : 200 < N) : OK2 (f_X12_fewestBoardingsByTable N σ x y) (f_X13_fewestBoardingsByTable N μ x y) K [(1, 1), (4, 2)] := by
  have hs := I.gi.st
  refine op_bo I x y hN (fun h => ?_) (fun h f t hx hy hf ht => ?_) rfl
  · unfold f_X12_fewestBoardingsByTable
    rw [cl_ref (z := 1) (by rw [c_pairF I.nr, h]) (by decide)]; rfl
  · subst hx; subst hy
    obtain ⟨s, c1, c2, c3⟩ := c_fillTable (N := N) I.nr I.gi (I.rw 1 (Or.inl rfl)) (by omega)
    refine ⟨s, _, fun r hr => c2 r (by omega), c3 f hf, ?_⟩
    unfold f_X12_fewestBoardingsByTable
    rw [cl_go (by rw [c_pairF I.nr, h])]
    dsimp only
    rw [c1, Option.bind_some, c_tE s (by omega) (by omega), Option.bind_some]
    unfold f_X12_journeyFound
    by_cases q : tb s f t < 1000000000
    · rw [if_pos q]; rfl
    · rw [if_neg q]; rfl
end MO
