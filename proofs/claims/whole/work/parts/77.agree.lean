/-! agreement of class and model, part 77 -/
/-! the changes as class and model carry them out -/
section NC
variable {b : Nat} {σ σ' : Sm} {g g' : Ga} {K : Int}
theorem NR.liC (h : NR b σ g) (G : GI K g) (hr : ∀ r, b + 23 ≤ r → r < b + 33 → σ' r = σ r) (hg : ∀ i, 132 ≤ i → i < 212 → g' i = g i) (h2 : g' 2 = g 2) : ∀ c : Nat, (c : Int) < g' 2 → σ' (b + 23 + 2 * c) 0 = gl g' c 0 ∧ σ' (b + 23 + 2 * c) 1 = gl g' c 1 ∧ σ' (b + 23 + 2 * c) 2 = gl g' c 2 ∧ σ' (b + 23 + 2 * c) 3 = gl g' c 3 ∧ σ' (b + 23 + 2 * c) 4 = gl g' c 4 ∧ σ' (b + 23 + 2 * c) 5 = gl g' c 6 ∧ σ' (b + 23 + 2 * c) 6 = gl g' c 5 := fun c hc => by
  have := G.ln
  rw [hr _ (by omega) (by omega)]
  have e : ∀ w, w < 16 → gl g' c w = gl g c w := fun w hw => hg _ (by omega) (by omega)
  rw [e 0 (by decide), e 1 (by decide), e 2 (by decide), e 3 (by decide), e 4 (by decide), e 5 (by decide), e 6 (by decide)]
  exact h.li c (by omega)
theorem NR.rgC (h : NR b σ g) (G : GI K g) (hr : ∀ r, b + 23 ≤ r → r < b + 33 → σ' r = σ r) (hg : ∀ i, 132 ≤ i → i < 212 → g' i = g i) (h2 : g' 2 = g 2) : ∀ c : Nat, (c : Int) < g' 2 → ∀ p : Nat, (p : Int) < gl g' c 5 → σ' (b + 23 + 2 * c + 1) p = gl g' c (7 + p) := fun c hc p hp => by
  have := G.ln
  have e : ∀ w, w < 16 → gl g' c w = gl g c w := fun w hw => hg _ (by omega) (by omega)
  rw [e 5 (by decide)] at hp
  have := (G.li c (by omega)).sz
  rw [hr _ (by omega) (by omega), e _ (by omega)]
  exact h.rg c (by omega) p hp
theorem NR.tiC (h : NR b σ g) (G : GI K g) (R : RW b σ) (hr : ∀ r, b + 6 ≤ r → r < b + 23 → σ' r = σ r) (hg : ∀ i, 212 ≤ i → i < 340 → g' i = g i) (h3 : g' 3 = g 3) : ∀ k : Nat, (k : Int) < g' 3 → ∀ v, v < 6 → σ' (tkr b σ' k) v = gt g' k v := fun k hk v hv => by
  have := G.tk
  have e : tkr b σ' k = tkr b σ k := by unfold tkr; rw [hr (b + 6) (by omega) (by omega)]
  have q := tkr_ge R (k := k) (by omega)
  rw [e, hr _ (by omega) (by omega)]
  have e2 : gt g' k v = gt g k v := hg _ (by omega) (by omega)
  rw [e2]
  exact h.ti k (by omega) v hv
/-- a change of one's own roles outside the tickets' and the lines' -/
theorem NR.low (h : NR b σ g) (G : GI K g) (R : RW b σ) (hr : ∀ r, b + 4 ≤ r → r < b + 33 → σ' r = σ r) (hg : ∀ i, 132 ≤ i → i < 340 → g' i = g i) (hs : g' 2 = g 2 ∧ g' 3 = g 3 ∧ g' 4 = g 4 ∧ g' 7 = g 7 ∧ g' 8 = g 8 ∧ g' 9 = g 9) (mi : σ' b 0 = g' 5) (ra : σ' b 1 = g' 6) (st : σ' b 2 = g' 0) (wk : σ' b 5 = g' 1) (ln : σ' b 7 = g' 2)
    (tr : ∀ i : Nat, (i : Int) < g' 0 → σ' (b + 1) i = g' (12 + 2 * i)) (cl : ∀ i : Nat, (i : Int) < g' 0 → σ' (b + 2) i = g' (13 + 2 * i)) (wl : ∀ a c, a < 10 → c < 10 → σ' (b + 3) (10 * a + c) = g' (32 + 10 * a + c)) : NR b σ' g' := by
  have e5 := hr (b + 5) (by omega) (by omega)
  refine NR.mk mi ra st wk ln tr cl wl (h.liC G (fun r h1 h2 => hr r (by omega) h2) (fun i h1 h2 => hg i h1 (by omega)) hs.1) (h.rgC G (fun r h1 h2 => hr r (by omega) h2) (fun i h1 h2 => hg i h1 (by omega)) hs.1) ?_ ?_ ?_ ?_ ?_ (h.tiC G R (fun r h1 h2 => hr r (by omega) (by omega)) (fun i h1 h2 => hg i (by omega) h2) hs.2.1)
  · rw [e5, hs.2.1]; exact h.tk
  · rw [e5, hs.2.2.1]; exact h.nx
  · rw [e5, hs.2.2.2.1]; exact h.ic
  · rw [e5, hs.2.2.2.2.1]; exact h.rf
  · rw [e5, hs.2.2.2.2.2]; exact h.us
/-- a change of one line's cells or of its ring -/
theorem NR.lin (h : NR b σ g) (G : GI K g) (R : RW b σ) (d : Nat) (hr : ∀ r, b + 1 ≤ r → r < b + 33 → r ≠ b + 23 + 2 * d → r ≠ b + 23 + 2 * d + 1 → σ' r = σ r) (hb : ∀ i, i ≠ 7 → σ' b i = σ b i) (hg : ∀ i, i ≠ 2 → (i < 132 + 16 * d ∨ 132 + 16 * d + 16 ≤ i) → g' i = g i) (hd : d < 5) (ln : σ' b 7 = g' 2) (h2 : ∀ c : Nat, (c : Int) < g' 2 → c ≠ d → (c : Int) < g 2)
    (li : (d : Int) < g' 2 → σ' (b + 23 + 2 * d) 0 = gl g' d 0 ∧ σ' (b + 23 + 2 * d) 1 = gl g' d 1 ∧ σ' (b + 23 + 2 * d) 2 = gl g' d 2 ∧ σ' (b + 23 + 2 * d) 3 = gl g' d 3 ∧ σ' (b + 23 + 2 * d) 4 = gl g' d 4 ∧ σ' (b + 23 + 2 * d) 5 = gl g' d 6 ∧ σ' (b + 23 + 2 * d) 6 = gl g' d 5) (rg : (d : Int) < g' 2 → ∀ p : Nat, (p : Int) < gl g' d 5 → σ' (b + 23 + 2 * d + 1) p = gl g' d (7 + p)) : NR b σ' g' := by
  have h4 := G.ln
  have h0 := G.st
  have e5 := hr (b + 5) (by omega) (by omega) (by omega) (by omega)
  have en : ∀ i, i < 132 → i ≠ 2 → g' i = g i := fun i h1 h3 => hg i h3 (by omega)
  refine NR.mk ?_ ?_ ?_ ?_ ln ?_ ?_ ?_ ?_ ?_ ?_ ?_ ?_ ?_ ?_ (h.tiC G R (fun r h1 h3 => hr r (by omega) (by omega) (by omega) (by omega)) (fun i h1 h3 => hg i (by omega) (by omega)) (en 3 (by decide) (by decide)))
  · rw [hb 0 (by decide), en 5 (by decide) (by decide)]; exact h.mi
  · rw [hb 1 (by decide), en 6 (by decide) (by decide)]; exact h.ra
  · rw [hb 2 (by decide), en 0 (by decide) (by decide)]; exact h.st
  · rw [hb 5 (by decide), en 1 (by decide) (by decide)]; exact h.wk
  · intro i hi
    rw [en 0 (by decide) (by decide)] at hi
    rw [hr (b + 1) (by omega) (by omega) (by omega) (by omega), en _ (by omega) (by omega)]; exact h.tr i hi
  · intro i hi
    rw [en 0 (by decide) (by decide)] at hi
    rw [hr (b + 2) (by omega) (by omega) (by omega) (by omega), en _ (by omega) (by omega)]; exact h.cl i hi
  · intro a c ha hc
    rw [hr (b + 3) (by omega) (by omega) (by omega) (by omega), en _ (by omega) (by omega)]; exact h.wl a c ha hc
  · intro c hc
    by_cases q : c = d
    · subst q; exact li hc
    · have hc2 := h2 c hc q
      have e : ∀ w, w < 16 → gl g' c w = gl g c w := fun w hw => hg _ (by omega) (by omega)
      rw [hr _ (by omega) (by omega) (by omega) (by omega), e 0 (by decide), e 1 (by decide), e 2 (by decide), e 3 (by decide), e 4 (by decide), e 5 (by decide), e 6 (by decide)]
      exact h.li c hc2
  · intro c hc p hp
    by_cases q : c = d
    · subst q; exact rg hc p hp
    · have hc2 := h2 c hc q
      have e : ∀ w, w < 16 → gl g' c w = gl g c w := fun w hw => hg _ (by omega) (by omega)
      rw [e 5 (by decide)] at hp
      have := (G.li c (by omega)).sz
      rw [hr _ (by omega) (by omega) (by omega) (by omega), e _ (by omega)]
      exact h.rg c hc2 p hp
  · rw [e5, en 3 (by decide) (by decide)]; exact h.tk
  · rw [e5, en 4 (by decide) (by decide)]; exact h.nx
  · rw [e5, en 7 (by decide) (by decide)]; exact h.ic
  · rw [e5, en 8 (by decide) (by decide)]; exact h.rf
  · rw [e5, en 9 (by decide) (by decide)]; exact h.us
theorem c_putStop (h : NR b σ g) (G : GI K g) (R : RW b σ) (x : Int) (q : g 0 < 10) : ∃ σ', f_X8_putStop σ b x = some (σ', g 0) ∧ NR b σ' (gAS g x) ∧ offN b σ σ' ∧ σ' (b + 6) = σ (b + 6) := by
  have h0 := G.st
  obtain ⟨z, hz⟩ := Int.eq_ofNat_of_zero_le h0.1
  have e0 : gAS g x 0 = g 0 + 1 := upf_eq _ _ _
  have e1 : gAS g x (12 + 2 * z) = x := by unfold gAS; rw [hz, Int.toNat_natCast, upf_ne (by omega), upf_eq]
  have en : ∀ i, i ≠ 0 → i ≠ 12 + 2 * z → gAS g x i = g i := fun i h1 h2 => by unfold gAS; rw [hz, Int.toNat_natCast, upf_ne h1, upf_ne h2]
  unfold f_X8_putStop
  simp only [bl_eq]
  have n1 : b ≠ b + 1 := by omega
  have n2 : b ≠ b + 2 := by omega
  have n3 : b + 1 ≠ b := by omega
  have n4 : b + 2 ≠ b := by omega
  have f1 : ∀ v, upm σ (b + 1) (σ b 2).toNat v b 2 = g 0 := fun v => by rw [upm_role n1]; exact h.st
  have f2 : ∀ v w, upm (upm σ (b + 1) (σ b 2).toNat v) (b + 2) (upm σ (b + 1) (σ b 2).toNat v b 2).toNat w b 2 = g 0 := fun v w => by rw [upm_role n2]; exact f1 v
  rw [f2, upm_same, h.st, if_pos (by omega), if_pos (by omega), upm_role n1, h.st, if_pos (by omega), if_pos (by unfold rng; omega), if_pos (by unfold rng; omega), hz, Int.toNat_natCast]
  refine ⟨_, by rw [show (z : Int) + 1 - 1 = (z : Int) by omega], ?_, fun r hr => ?_, ?_⟩
  · refine h.low G R (fun r h1 h2 => ?_) (fun i h1 h2 => en i (by omega) (by omega)) ⟨en _ (by omega) (by omega), en _ (by omega) (by omega), en _ (by omega) (by omega), en _ (by omega) (by omega), en _ (by omega) (by omega), en _ (by omega) (by omega)⟩ ?_ ?_ ?_ ?_ ?_ (fun i hi => ?_) (fun i hi => ?_) (fun a c ha hc => ?_)
    · rw [upm_role (by omega), upm_role (by omega), upm_role (by omega)]
    · rw [upm_cell (by decide), upm_role n2, upm_role n1, en _ (by omega) (by omega)]; exact h.mi
    · rw [upm_cell (by decide), upm_role n2, upm_role n1, en _ (by omega) (by omega)]; exact h.ra
    · rw [upm_same, e0, hz]
    · rw [upm_cell (by decide), upm_role n2, upm_role n1, en _ (by omega) (by omega)]; exact h.wk
    · rw [upm_cell (by decide), upm_role n2, upm_role n1, en _ (by omega) (by omega)]; exact h.ln
    · rw [upm_role n3, upm_role (by omega)]
      by_cases r : i = z
      · subst r; rw [upm_same, e1]
      · rw [e0] at hi
        rw [upm_cell r, en _ (by omega) (by omega)]; exact h.tr i (by omega)
    · rw [upm_role n4]
      by_cases r : i = z
      · subst r; rw [upm_same, en _ (by omega) (by omega)]; exact (G.co i (by omega) (by omega)).symm
      · rw [e0] at hi
        rw [upm_cell r, upm_role (by omega), en _ (by omega) (by omega)]; exact h.cl i (by omega)
    · rw [upm_role (by omega), upm_role (by omega), upm_role (by omega), en _ (by omega) (by omega)]; exact h.wl a c ha hc
  · rw [upm_role (by omega), upm_role (by omega), upm_role (by omega)]
  · rw [upm_role (by omega), upm_role (by omega), upm_role (by omega)]
end NC
