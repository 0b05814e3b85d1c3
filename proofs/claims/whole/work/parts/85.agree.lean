/-! agreement of class and model, part 85 -/
/-! sellTicket, refund -/
def pri (g : Ga) (a e : Int) : Int := if g 6 = 1 then (e - a) * 2 else (e - a) * 3
def gSl (g : Ga) (c t a e : Int) : Ga := upf (upf (upf (upf (upf (upf (upf (upf (upf g (212 + 8 * (g 3).toNat) (g 4)) (212 + 8 * (g 3).toNat + 1) c) (212 + 8 * (g 3).toNat + 2) t) (212 + 8 * (g 3).toNat + 3) a) (212 + 8 * (g 3).toNat + 4) e) (212 + 8 * (g 3).toNat + 5) (pri g a e)) 3 (g 3 + 1)) 4 (g 4 + 1)) 7 (g 7 + pri g a e)
section SE
variable {b : Nat} {σ μ : Sm} {g : Ga} {K : Int} {N p : Nat}
theorem pri_rng (G : GI K g) {a e : Int} (h : 0 ≤ a ∧ a < e ∧ e ≤ 6) : 0 ≤ pri g a e ∧ pri g a e ≤ 18 := by
  unfold pri
  split <;> omega
theorem gSl_e {c t a e : Int} {n : Nat} (hn : g 3 = (n : Int)) : gSl g c t a e 3 = g 3 + 1 ∧ gSl g c t a e 4 = g 4 + 1 ∧ gSl g c t a e 7 = g 7 + pri g a e ∧ (∀ i, i ≠ 3 → i ≠ 4 → i ≠ 7 → (i < 212 + 8 * n ∨ 212 + 8 * n + 6 ≤ i) → gSl g c t a e i = g i) ∧ (gt (gSl g c t a e) n 0 = g 4 ∧ gt (gSl g c t a e) n 1 = c ∧ gt (gSl g c t a e) n 2 = t ∧ gt (gSl g c t a e) n 3 = a ∧ gt (gSl g c t a e) n 4 = e ∧ gt (gSl g c t a e) n 5 = pri g a e) := by
  unfold gSl gt
  rw [hn, Int.toNat_natCast]
  refine ⟨?_, ?_, ?_, fun i h1 h2 h3 h4 => ?_, ?_, ?_, ?_, ?_, ?_, ?_⟩
  · rw [upf_ne (by decide), upf_ne (by decide), upf_eq]
  · rw [upf_ne (by decide), upf_eq]
  · rw [upf_eq]
  · rw [upf_ne h3, upf_ne h2, upf_ne h1, upf_ne (by omega), upf_ne (by omega), upf_ne (by omega), upf_ne (by omega), upf_ne (by omega), upf_ne (by omega)]
  · rw [upf_ne (by omega), upf_ne (by omega), upf_ne (by omega), upf_ne (by omega), upf_ne (by omega), upf_ne (by omega), upf_ne (by omega), upf_ne (by omega)]; exact upf_eq _ _ _
  · rw [upf_ne (by omega), upf_ne (by omega), upf_ne (by omega), upf_ne (by omega), upf_ne (by omega), upf_ne (by omega), upf_ne (by omega), upf_eq]
  · rw [upf_ne (by omega), upf_ne (by omega), upf_ne (by omega), upf_ne (by omega), upf_ne (by omega), upf_ne (by omega), upf_eq]
  · rw [upf_ne (by omega), upf_ne (by omega), upf_ne (by omega), upf_ne (by omega), upf_ne (by omega), upf_eq]
  · rw [upf_ne (by omega), upf_ne (by omega), upf_ne (by omega), upf_ne (by omega), upf_eq]
  · rw [upf_ne (by omega), upf_ne (by omega), upf_ne (by omega), upf_eq]
theorem mxh_le (f : Nat → Int) : ∀ n k, k < n → f k ≤ mxh f n := by
  intro n
  induction n with
  | zero => intro k h; omega
  | succ n ih =>
    intro k hk
    unfold mxh
    by_cases e : k = n
    · subst e; split <;> omega
    · have := ih k (by omega)
      split <;> omega
theorem gSl_ok (G : GI K g) {c : Nat} {t a e : Int} (hc : (c : Int) < g 2) (ht : 0 ≤ t ∧ t ≤ 99) (ha : 0 ≤ a ∧ a < e ∧ e ≤ gl g c 5) (h16 : g 3 < 16) (hf : 0 < fre g c t a e) : GI (K + 1) (gSl g c t a e) := by
  have hc5 : c < 5 := by have := G.ln; omega
  have sz := (G.li c hc5).sz
  have h3 := G.tk
  obtain ⟨n, hn⟩ := Int.eq_ofNat_of_zero_le h3.1
  obtain ⟨e3, e4, e7, en, t0, t1, t2, t3, t4, t5⟩ := gSl_e (g := g) (c := c) (t := t) (a := a) (e := e) hn
  have pr := pri_rng G (a := a) (e := e) (by omega)
  have eo : ∀ i, i < 212 → i ≠ 3 → i ≠ 4 → i ≠ 7 → gSl g c t a e i = g i := fun i h1 h2 h4 h5 => en i h2 h4 h5 (by omega)
  have G1 := G.mono (show K ≤ K + 1 by omega)
  have tk : ∀ k v, k < n → v < 8 → gt (gSl g c t a e) k v = gt g k v := fun k v hk hv => en _ (by omega) (by omega) (by omega) (by omega)
  apply GI.mk
  · rw [eo _ (by decide) (by decide) (by decide) (by decide)]; exact G1.st
  · rw [eo _ (by decide) (by decide) (by decide) (by decide)]; exact G1.wk
  · rw [eo _ (by decide) (by decide) (by decide) (by decide)]; exact G1.ln
  · rw [e3]; omega
  · rw [e4]; have := G.nx; omega
  · rw [eo _ (by decide) (by decide) (by decide) (by decide)]; exact G1.mi
  · rw [eo _ (by decide) (by decide) (by decide) (by decide)]; exact G1.ra
  · rw [e7]; have := G.ic; omega
  · rw [eo _ (by decide) (by decide) (by decide) (by decide)]; exact G1.rf
  · rw [eo _ (by decide) (by decide) (by decide) (by decide)]; exact G1.us
  · exact G1.trC (fun i h1 h2 => eo _ (by omega) (by omega) (by omega) (by omega))
  · exact G1.clC (fun i h1 h2 => eo _ (by omega) (by omega) (by omega) (by omega))
  · exact G1.coC (fun i h1 h2 => eo _ (by omega) (by omega) (by omega) (by omega)) (by rw [eo _ (by decide) (by decide) (by decide) (by decide)]; omega)
  · exact G1.wlC (fun i h1 h2 => eo _ (by omega) (by omega) (by omega) (by omega))
  · exact G1.liC (fun i h1 h2 => eo _ (by omega) (by omega) (by omega) (by omega)) (by rw [eo _ (by decide) (by decide) (by decide) (by decide)]; omega) (eo _ (by decide) (by decide) (by decide) (by decide))
  · intro k hk
    rw [e3] at hk
    by_cases q : k = n
    · subst q
      apply GT.mk
      · rw [t0, e4]; have := G.nx; omega
      · rw [t1, eo 2 (by decide) (by decide) (by decide) (by decide)]; omega
      · rw [t2]; exact ht
      · rw [t3, t4]; omega
      · rw [t4, t1, Int.toNat_natCast]
        have : gl (gSl g c t a e) c 5 = gl g c 5 := eo _ (by omega) (by omega) (by omega) (by omega)
        rw [this]; exact ha.2.2
      · rw [t5]; exact pr
    · have T := G.ti k (by omega)
      have h1 := T.ln
      have h2 := G.ln
      exact T.congr (fun w hw => tk k w (by omega) (by omega)) (by rw [e4]; omega) (by rw [eo 2 (by decide) (by decide) (by decide) (by decide)]; omega) (eo _ (by omega) (by omega) (by omega) (by omega))
  · intro d hd t' h'
    have e4' : gl (gSl g c t a e) d 4 = gl g d 4 := eo _ (by omega) (by omega) (by omega) (by omega)
    have es : sold (gSl g c t a e) d t' h' = sold g d t' h' + (if (c : Int) = d ∧ t = t' ∧ a ≤ h' ∧ h' < e then 1 else 0) := by
      unfold sold
      rw [e3, hn, show ((n : Int) + 1).toNat = n + 1 by omega, Int.toNat_natCast, ctk]
      rw [ctk_congr (q := fun k => decide (gt g k 1 = (d : Int) ∧ gt g k 2 = t' ∧ gt g k 3 ≤ h' ∧ h' < gt g k 4)) (fun k hk => by rw [tk k 1 hk (by decide), tk k 2 hk (by decide), tk k 3 hk (by decide), tk k 4 hk (by decide)]), t1, t2, t3, t4]
      simp
    rw [es, e4']
    have cap := G.cap d hd t' h'
    by_cases q : (c : Int) = d ∧ t = t' ∧ a ≤ h' ∧ h' < e
    · rw [if_pos q]
      obtain ⟨q1, q2, q3, q4⟩ := q
      have : c = d := by omega
      subst this
      subst q2
      have := mxh_le (fun i => sold g c t (a + i)) (e - a).toNat (h' - a).toNat (by omega)
      unfold fre at hf
      rw [show a + ((h' - a).toNat : Int) = h' by omega] at this
      omega
    · rw [if_neg q]; omega
theorem c_putTicket (h : NR b σ g) (G : GI K g) (R : RW b σ) {c t a e : Int} (h16 : g 3 < 16) (ha : 0 ≤ a ∧ a < e ∧ e ≤ 6) (hK : K ≤ 1000000) : ∃ σ', f_X8_putTicket σ b c t a e = some (σ', g 4) ∧ NR b σ' (gSl g c t a e) ∧ offN b σ σ' ∧ σ' (b + 6) = σ (b + 6) := by
  have h3 := G.tk
  have hl := G.ln
  have hs0 := G.st
  have hnx := G.nx
  have hic := G.ic
  have pr := pri_rng G ha
  obtain ⟨n, hn⟩ := Int.eq_ofNat_of_zero_le h3.1
  obtain ⟨e3, e4, e7, en, t0, t1, t2, t3, t4, t5⟩ := gSl_e (g := g) (c := c) (t := t) (a := a) (e := e) hn
  have r := tkr_ge R (k := n) (by omega)
  have key : ∃ σ', f_X11_put σ (b + 5) c t a e (pri g a e) = some (σ', g 4) ∧ NR b σ' (gSl g c t a e) ∧ offN b σ σ' ∧ σ' (b + 6) = σ (b + 6) := by
    unfold f_X11_put
    simp only [bl_eq]
    rw [h.tk, if_pos h16, if_pos (by omega), hn, Int.toNat_natCast]
    have et : (σ (b + 5 + 1) n).toNat = tkr b σ n := rfl
    rw [et]
    have q0 : tkr b σ n ≠ b + 5 := by omega
    have q1 : b + 5 ≠ tkr b σ n := by omega
    obtain ⟨s12, d12⟩ : ∃ s12 : Sm, s12 = upm (upm (upm (upm (upm (upm σ (tkr b σ n) 0 (σ (b + 5) 2)) (tkr b σ n) 1 c) (tkr b σ n) 2 t) (tkr b σ n) 3 a) (tkr b σ n) 4 e) (tkr b σ n) 5 (pri g a e) := ⟨_, rfl⟩
    rw [← d12]
    have o12 : ∀ r, r ≠ tkr b σ n → s12 r = σ r := fun r hr => by
      rw [d12, upm_role hr, upm_role hr, upm_role hr, upm_role hr, upm_role hr, upm_role hr]
    have v12 : s12 (tkr b σ n) 0 = g 4 ∧ s12 (tkr b σ n) 1 = c ∧ s12 (tkr b σ n) 2 = t ∧ s12 (tkr b σ n) 3 = a ∧ s12 (tkr b σ n) 4 = e ∧ s12 (tkr b σ n) 5 = pri g a e := by
      rw [d12]
      refine ⟨?_, ?_, ?_, ?_, ?_, ?_⟩ <;> simp [upm, h.nx]
    clear d12
    have b12 : s12 (b + 5) = σ (b + 5) := o12 _ q1
    rw [b12, h.tk, if_pos (by unfold rng; omega), upm_cell (by decide), b12, h.nx, if_pos (by unfold rng; omega), upm_cell (by decide), upm_cell (by decide), b12, h.ic, if_pos (by unfold rng; omega), upm_role q0, upm_role q0, upm_role q0]
    refine ⟨_, by rw [v12.1], ?_, fun r' hr => ?_, ?_⟩
    · obtain ⟨s, ds⟩ : ∃ s : Sm, s = upm (upm (upm s12 (b + 5) 1 (g 3 + 1)) (b + 5) 2 (g 4 + 1)) (b + 5) 3 (g 7 + pri g a e) := ⟨_, rfl⟩
      rw [← ds]
      have os : ∀ r, r ≠ b + 5 → s r = s12 r := fun r hr => by rw [ds, upm_role hr, upm_role hr, upm_role hr]
      have lo : ∀ r, (r < b + 5 ∨ r = b + 6 ∨ b + 23 ≤ r) → s r = σ r := fun r hr => by rw [os r (by omega), o12 r (by omega)]
      have vs : s (b + 5) 1 = g 3 + 1 ∧ s (b + 5) 2 = g 4 + 1 ∧ s (b + 5) 3 = g 7 + pri g a e ∧ s (b + 5) 4 = g 8 ∧ s (b + 5) 5 = g 9 := by
        rw [ds]
        refine ⟨?_, ?_, ?_, ?_, ?_⟩
        · simp [upm]
        · simp [upm]
        · simp [upm]
        · simp [upm, b12, h.rf]
        · simp [upm, b12, h.us]
      clear ds
      have eo : ∀ i, i < 212 → i ≠ 3 → i ≠ 4 → i ≠ 7 → gSl g c t a e i = g i := fun i h1 h2 h4 h5 => en i h2 h4 h5 (by omega)
      apply NR.mk
      · rw [lo b (by omega), eo _ (by decide) (by decide) (by decide) (by decide)]; exact h.mi
      · rw [lo b (by omega), eo _ (by decide) (by decide) (by decide) (by decide)]; exact h.ra
      · rw [lo b (by omega), eo _ (by decide) (by decide) (by decide) (by decide)]; exact h.st
      · rw [lo b (by omega), eo _ (by decide) (by decide) (by decide) (by decide)]; exact h.wk
      · rw [lo b (by omega), eo _ (by decide) (by decide) (by decide) (by decide)]; exact h.ln
      · intro i hi
        rw [eo 0 (by decide) (by decide) (by decide) (by decide)] at hi
        rw [lo _ (by omega), eo _ (by omega) (by omega) (by omega) (by omega)]; exact h.tr i hi
      · intro i hi
        rw [eo 0 (by decide) (by decide) (by decide) (by decide)] at hi
        rw [lo _ (by omega), eo _ (by omega) (by omega) (by omega) (by omega)]; exact h.cl i hi
      · intro x y hx hy
        rw [lo _ (by omega), eo _ (by omega) (by omega) (by omega) (by omega)]; exact h.wl x y hx hy
      · exact h.liC G (fun r h1 h2 => lo r (by omega)) (fun i h1 h2 => eo i (by omega) (by omega) (by omega) (by omega)) (eo _ (by decide) (by decide) (by decide) (by decide))
      · exact h.rgC G (fun r h1 h2 => lo r (by omega)) (fun i h1 h2 => eo i (by omega) (by omega) (by omega) (by omega)) (eo _ (by decide) (by decide) (by decide) (by decide))
      · rw [vs.1, e3]
      · rw [vs.2.1, e4]
      · rw [vs.2.2.1, e7]
      · rw [vs.2.2.2.1, eo _ (by decide) (by decide) (by decide) (by decide)]
      · rw [vs.2.2.2.2, eo _ (by decide) (by decide) (by decide) (by decide)]
      · intro k hk v hv
        rw [e3] at hk
        have etk : tkr b s k = tkr b σ k := by unfold tkr; rw [lo (b + 6) (by omega)]
        have rk := tkr_ge R (k := k) (by omega)
        rw [etk, os _ (by omega)]
        by_cases q : k = n
        · subst q
          rcases (by omega : v = 0 ∨ v = 1 ∨ v = 2 ∨ v = 3 ∨ v = 4 ∨ v = 5) with rfl | rfl | rfl | rfl | rfl | rfl
          · rw [v12.1, t0]
          · rw [v12.2.1, t1]
          · rw [v12.2.2.1, t2]
          · rw [v12.2.2.2.1, t3]
          · rw [v12.2.2.2.2.1, t4]
          · rw [v12.2.2.2.2.2, t5]
        · rw [o12 _ (fun q2 => q (tkr_inj R (by omega) (by omega) q2))]
          have : gt (gSl g c t a e) k v = gt g k v := en _ (by omega) (by omega) (by omega) (by omega)
          rw [this]; exact h.ti k (by omega) v hv
    · rw [upm_role (by omega), upm_role (by omega), upm_role (by omega), o12 _ (by omega)]
    · rw [upm_role (by omega), upm_role (by omega), upm_role (by omega), o12 _ (by omega)]
  obtain ⟨σ', k1, k2⟩ := key
  refine ⟨σ', ?_, k2⟩
  unfold f_X8_putTicket
  rw [h.ra]
  have hra := G.ra
  unfold pri at k1 pr
  by_cases q : g 6 = 0
  · rw [if_neg (show ¬ g 6 = 1 by omega)] at k1 pr
    rw [if_pos q, bl_eq, if_pos (by unfold rng; omega), k1, Option.bind_some]
  · rw [if_pos (show g 6 = 1 by rcases hra with h | h <;> omega)] at k1 pr
    rw [if_neg q, bl_eq, if_pos (by unfold rng; omega), k1, Option.bind_some]
set_option maxRecDepth 20000 in
theorem m_sells (G : GI K (μ 1)) {c t a e : Int} (h16 : μ 1 3 < 16) (ha : 0 ≤ a ∧ a < e ∧ e ≤ 6) (hK : K ≤ 1000000) : ∃ μ', f_X13_sells μ c t a e = some (μ', μ 1 4) ∧ MS μ μ' (gSl (μ 1) c t a e) := by
  have h3 := G.tk
  have hnx := G.nx
  have hic := G.ic
  have pr := pri_rng G ha
  obtain ⟨n, hn⟩ := Int.eq_ofNat_of_zero_le h3.1
  have M := (((((((((MS.refl μ).up (212 + 8 * n) (μ 1 4)).up (212 + 8 * n + 1) c).up (212 + 8 * n + 2) t).up (212 + 8 * n + 3) a).up (212 + 8 * n + 4) e).up (212 + 8 * n + 5) (pri (μ 1) a e)).up 3 (μ 1 3 + 1)).up 4 (μ 1 4 + 1)).up 7 (μ 1 7 + pri (μ 1) a e)
  have k0 : (212 + 8 * (n : Int) + 0).toNat = 212 + 8 * n := by omega
  have k1 : (212 + 8 * (n : Int) + 1).toNat = 212 + 8 * n + 1 := by omega
  have k2 : (212 + 8 * (n : Int) + 2).toNat = 212 + 8 * n + 2 := by omega
  have k3 : (212 + 8 * (n : Int) + 3).toNat = 212 + 8 * n + 3 := by omega
  have k4 : (212 + 8 * (n : Int) + 4).toNat = 212 + 8 * n + 4 := by omega
  have k5 : (212 + 8 * (n : Int) + 5).toNat = 212 + 8 * n + 5 := by omega
  refine ⟨_, ?_, by unfold gSl; rw [hn, Int.toNat_natCast]; rw [hn] at M; exact M⟩
  unfold f_X13_sells
  unfold pri at pr ⊢
  rw [bl_eq, hn]
  by_cases q : μ 1 6 = 1
  · rw [if_pos q] at pr
    simp only [if_pos q]
    simp only [bl_eq, k0, k1, k2, k3, k4, k5]
    rw [if_pos (by omega), if_pos (by omega), if_pos (by omega), if_pos (by omega), if_pos (by omega), if_pos (by omega), if_pos (by unfold rng; omega)]
    have c3 : ∀ v1 v2 v3 v4 v5 v6, upm (upm (upm (upm (upm (upm μ 1 (212 + 8 * n) v1) 1 (212 + 8 * n + 1) v2) 1 (212 + 8 * n + 2) v3) 1 (212 + 8 * n + 3) v4) 1 (212 + 8 * n + 4) v5) 1 (212 + 8 * n + 5) v6 1 3 = n := fun v1 v2 v3 v4 v5 v6 => by
      rw [upm_cell (by omega), upm_cell (by omega), upm_cell (by omega), upm_cell (by omega), upm_cell (by omega), upm_cell (by omega)]; exact hn
    have c4 : ∀ v1 v2 v3 v4 v5 v6, upm (upm (upm (upm (upm (upm μ 1 (212 + 8 * n) v1) 1 (212 + 8 * n + 1) v2) 1 (212 + 8 * n + 2) v3) 1 (212 + 8 * n + 3) v4) 1 (212 + 8 * n + 4) v5) 1 (212 + 8 * n + 5) v6 1 4 = μ 1 4 := fun v1 v2 v3 v4 v5 v6 => by
      rw [upm_cell (by omega), upm_cell (by omega), upm_cell (by omega), upm_cell (by omega), upm_cell (by omega), upm_cell (by omega)]
    have c7 : ∀ v1 v2 v3 v4 v5 v6, upm (upm (upm (upm (upm (upm μ 1 (212 + 8 * n) v1) 1 (212 + 8 * n + 1) v2) 1 (212 + 8 * n + 2) v3) 1 (212 + 8 * n + 3) v4) 1 (212 + 8 * n + 4) v5) 1 (212 + 8 * n + 5) v6 1 7 = μ 1 7 := fun v1 v2 v3 v4 v5 v6 => by
      rw [upm_cell (by omega), upm_cell (by omega), upm_cell (by omega), upm_cell (by omega), upm_cell (by omega), upm_cell (by omega)]
    rw [c3, if_pos (by unfold rng; omega), upm_cell (by decide), c4, if_pos (by unfold rng; omega), upm_cell (by decide), upm_cell (by decide), c7, if_pos (by unfold rng; omega), upm_cell (by decide), upm_same, if_pos (by unfold rng; omega), show μ 1 4 + 1 - 1 = μ 1 4 by omega]
  · rw [if_neg q] at pr
    simp only [if_neg q]
    simp only [bl_eq, k0, k1, k2, k3, k4, k5]
    rw [if_pos (by omega), if_pos (by omega), if_pos (by omega), if_pos (by omega), if_pos (by omega), if_pos (by omega), if_pos (by unfold rng; omega)]
    have c3 : ∀ v1 v2 v3 v4 v5 v6, upm (upm (upm (upm (upm (upm μ 1 (212 + 8 * n) v1) 1 (212 + 8 * n + 1) v2) 1 (212 + 8 * n + 2) v3) 1 (212 + 8 * n + 3) v4) 1 (212 + 8 * n + 4) v5) 1 (212 + 8 * n + 5) v6 1 3 = n := fun v1 v2 v3 v4 v5 v6 => by
      rw [upm_cell (by omega), upm_cell (by omega), upm_cell (by omega), upm_cell (by omega), upm_cell (by omega), upm_cell (by omega)]; exact hn
    have c4 : ∀ v1 v2 v3 v4 v5 v6, upm (upm (upm (upm (upm (upm μ 1 (212 + 8 * n) v1) 1 (212 + 8 * n + 1) v2) 1 (212 + 8 * n + 2) v3) 1 (212 + 8 * n + 3) v4) 1 (212 + 8 * n + 4) v5) 1 (212 + 8 * n + 5) v6 1 4 = μ 1 4 := fun v1 v2 v3 v4 v5 v6 => by
      rw [upm_cell (by omega), upm_cell (by omega), upm_cell (by omega), upm_cell (by omega), upm_cell (by omega), upm_cell (by omega)]
    have c7 : ∀ v1 v2 v3 v4 v5 v6, upm (upm (upm (upm (upm (upm μ 1 (212 + 8 * n) v1) 1 (212 + 8 * n + 1) v2) 1 (212 + 8 * n + 2) v3) 1 (212 + 8 * n + 3) v4) 1 (212 + 8 * n + 4) v5) 1 (212 + 8 * n + 5) v6 1 7 = μ 1 7 := fun v1 v2 v3 v4 v5 v6 => by
      rw [upm_cell (by omega), upm_cell (by omega), upm_cell (by omega), upm_cell (by omega), upm_cell (by omega), upm_cell (by omega)]
    rw [c3, if_pos (by unfold rng; omega), upm_cell (by decide), c4, if_pos (by unfold rng; omega), upm_cell (by decide), upm_cell (by decide), c7, if_pos (by unfold rng; omega), upm_cell (by decide), upm_same, if_pos (by unfold rng; omega), show μ 1 4 + 1 - 1 = μ 1 4 by omega]
end SE
