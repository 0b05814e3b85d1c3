/-! agreement of class and model, part 80 -/
/-! the whole state: class and model side by side -/
def isNB (b : Nat) : Prop := b = 1 ∨ b = 34 ∨ b = 67 ∨ ∃ k, k < 8 ∧ b = 102 + 33 * k
def RWS (σ : Sm) : Prop := ∀ b, isNB b → RW b σ
/-- the role of the network that holds the d-th change -/
def hb (n c : Int) (d : Nat) : Nat := 102 + 33 * ((n.toNat + 8 - c.toNat + d) % 8)
/-- block d of the model's history -/
def hblk (μ : Sm) (d : Nat) : Ga := fun j => μ 4 (340 * d + j)
def INV (K : Int) (σ : Sm) (μ : Sm) : Prop := (NR 1 σ (μ 1)) ∧ (GI K (μ 1)) ∧ (0 ≤ K ∧ K ≤ 80000) ∧ (RWS σ) ∧ (0 ≤ σ 100 1 ∧ σ 100 1 < 8) ∧ (σ 100 2 = μ 12 0 ∧ 0 ≤ μ 12 0 ∧ μ 12 0 ≤ 8) ∧ (∀ d : Nat, (d : Int) < μ 12 0 → NR (hb (σ 100 1) (μ 12 0) d) σ (hblk μ d) ∧ GI K (hblk μ d)) ∧ (σ 0 3 = μ 15 0 ∧ bit (μ 15 0)) ∧ (μ 15 0 = 1 → NR 67 σ (μ 3) ∧ GI K (μ 3)) ∧ (σ 386 1 = μ 17 0 ∧ 0 ≤ μ 17 0 ∧ μ 17 0 ≤ 60) ∧ (∀ i : Nat, (i : Int) < μ 17 0 → σ 387 i = μ 8 i ∧ 32 ≤ μ 8 i ∧ μ 8 i ≤ 126) ∧ (σ 0 10 = μ 13 0 ∧ -1 ≤ μ 13 0) ∧ (σ 0 11 = μ 14 0 ∧ -1 ≤ μ 14 0) ∧ (∃ t : List Int, BI σ t ∧ μ 16 0 = (t.length : Int) ∧ t.length ≤ 80 ∧ ∀ j, j < t.length → μ 7 j = t.getD j 0)
theorem INV.nr {K : Int} {σ : Sm} {μ : Sm} (h : INV K σ μ) : NR 1 σ (μ 1) := h.1
theorem INV.gi {K : Int} {σ : Sm} {μ : Sm} (h : INV K σ μ) : GI K (μ 1) := h.2.1
theorem INV.kb {K : Int} {σ : Sm} {μ : Sm} (h : INV K σ μ) : 0 ≤ K ∧ K ≤ 80000 := h.2.2.1
theorem INV.rw {K : Int} {σ : Sm} {μ : Sm} (h : INV K σ μ) : RWS σ := h.2.2.2.1
theorem INV.hn {K : Int} {σ : Sm} {μ : Sm} (h : INV K σ μ) : 0 ≤ σ 100 1 ∧ σ 100 1 < 8 := h.2.2.2.2.1
theorem INV.hc {K : Int} {σ : Sm} {μ : Sm} (h : INV K σ μ) : σ 100 2 = μ 12 0 ∧ 0 ≤ μ 12 0 ∧ μ 12 0 ≤ 8 := h.2.2.2.2.2.1
theorem INV.hi {K : Int} {σ : Sm} {μ : Sm} (h : INV K σ μ) : ∀ d : Nat, (d : Int) < μ 12 0 → NR (hb (σ 100 1) (μ 12 0) d) σ (hblk μ d) ∧ GI K (hblk μ d) := h.2.2.2.2.2.2.1
theorem INV.sv {K : Int} {σ : Sm} {μ : Sm} (h : INV K σ μ) : σ 0 3 = μ 15 0 ∧ bit (μ 15 0) := h.2.2.2.2.2.2.2.1
theorem INV.sn {K : Int} {σ : Sm} {μ : Sm} (h : INV K σ μ) : μ 15 0 = 1 → NR 67 σ (μ 3) ∧ GI K (μ 3) := h.2.2.2.2.2.2.2.2.1
theorem INV.sl {K : Int} {σ : Sm} {μ : Sm} (h : INV K σ μ) : σ 386 1 = μ 17 0 ∧ 0 ≤ μ 17 0 ∧ μ 17 0 ≤ 60 := h.2.2.2.2.2.2.2.2.2.1
theorem INV.sg {K : Int} {σ : Sm} {μ : Sm} (h : INV K σ μ) : ∀ i : Nat, (i : Int) < μ 17 0 → σ 387 i = μ 8 i ∧ 32 ≤ μ 8 i ∧ μ 8 i ≤ 126 := h.2.2.2.2.2.2.2.2.2.2.1
theorem INV.er {K : Int} {σ : Sm} {μ : Sm} (h : INV K σ μ) : σ 0 10 = μ 13 0 ∧ -1 ≤ μ 13 0 := h.2.2.2.2.2.2.2.2.2.2.2.1
theorem INV.fl {K : Int} {σ : Sm} {μ : Sm} (h : INV K σ μ) : σ 0 11 = μ 14 0 ∧ -1 ≤ μ 14 0 := h.2.2.2.2.2.2.2.2.2.2.2.2.1
theorem INV.ot {K : Int} {σ : Sm} {μ : Sm} (h : INV K σ μ) : ∃ t : List Int, BI σ t ∧ μ 16 0 = (t.length : Int) ∧ t.length ≤ 80 ∧ ∀ j, j < t.length → μ 7 j = t.getD j 0 := h.2.2.2.2.2.2.2.2.2.2.2.2.2
theorem INV.mk {K : Int} {σ : Sm} {μ : Sm} (nr9 : NR 1 σ (μ 1)) (gi9 : GI K (μ 1)) (kb9 : 0 ≤ K ∧ K ≤ 80000) (rw9 : RWS σ) (hn9 : 0 ≤ σ 100 1 ∧ σ 100 1 < 8) (hc9 : σ 100 2 = μ 12 0 ∧ 0 ≤ μ 12 0 ∧ μ 12 0 ≤ 8) (hi9 : ∀ d : Nat, (d : Int) < μ 12 0 → NR (hb (σ 100 1) (μ 12 0) d) σ (hblk μ d) ∧ GI K (hblk μ d)) (sv9 : σ 0 3 = μ 15 0 ∧ bit (μ 15 0)) (sn9 : μ 15 0 = 1 → NR 67 σ (μ 3) ∧ GI K (μ 3)) (sl9 : σ 386 1 = μ 17 0 ∧ 0 ≤ μ 17 0 ∧ μ 17 0 ≤ 60) (sg9 : ∀ i : Nat, (i : Int) < μ 17 0 → σ 387 i = μ 8 i ∧ 32 ≤ μ 8 i ∧ μ 8 i ≤ 126) (er9 : σ 0 10 = μ 13 0 ∧ -1 ≤ μ 13 0) (fl9 : σ 0 11 = μ 14 0 ∧ -1 ≤ μ 14 0) (ot9 : ∃ t : List Int, BI σ t ∧ μ 16 0 = (t.length : Int) ∧ t.length ≤ 80 ∧ ∀ j, j < t.length → μ 7 j = t.getD j 0) : INV K σ μ := ⟨nr9, gi9, kb9, rw9, hn9, hc9, hi9, sv9, sn9, sl9, sg9, er9, fl9, ot9⟩
section EQ
variable {b : Nat} {σ σ' μ μ' : Sm} {g g' : Ga} {K K' : Int}
theorem GI.eqv (G : GI K g) (e : ∀ i, i < 340 → g' i = g i) : GI K g' := by
  have h3 := G.tk
  apply GI.mk
  · rw [e _ (by decide)]; exact G.st
  · rw [e _ (by decide)]; exact G.wk
  · rw [e _ (by decide)]; exact G.ln
  · rw [e _ (by decide)]; exact G.tk
  · rw [e _ (by decide)]; exact G.nx
  · rw [e _ (by decide)]; exact G.mi
  · rw [e _ (by decide)]; exact G.ra
  · rw [e _ (by decide)]; exact G.ic
  · rw [e _ (by decide)]; exact G.rf
  · rw [e _ (by decide)]; exact G.us
  · exact G.trC (fun i h1 h2 => e i (by omega))
  · exact G.clC (fun i h1 h2 => e i (by omega))
  · exact G.coC (fun i h1 h2 => e i (by omega)) (by rw [e 0 (by decide)]; omega)
  · exact G.wlC (fun i h1 h2 => e i (by omega))
  · exact G.liC (fun i h1 h2 => e i (by omega)) (by rw [e 0 (by decide)]; omega) (e _ (by decide))
  · exact G.tiC (fun i h1 h2 => e i (by omega)) (e _ (by decide)) (by rw [e 4 (by decide)]; omega) (by rw [e 2 (by decide)]; omega) (fun c hc _ => e _ (by omega))
  · exact G.capC (fun i h1 h2 => e i (by omega)) (e _ (by decide)) (fun c hc => by unfold gl; rw [e _ (by omega)]; omega)
theorem NR.eqv (h : NR b σ g) (G : GI K g) (R : RW b σ) (e : ∀ i, i < 340 → g' i = g i) : NR b σ g' := by
  have h0 := G.st
  refine h.low G R (fun _ _ _ => rfl) (fun i h1 h2 => e i (by omega)) ⟨e _ (by decide), e _ (by decide), e _ (by decide), e _ (by decide), e _ (by decide), e _ (by decide)⟩ ?_ ?_ ?_ ?_ ?_ (fun i hi => ?_) (fun i hi => ?_) (fun x y hx hy => ?_)
  · rw [e _ (by decide)]; exact h.mi
  · rw [e _ (by decide)]; exact h.ra
  · rw [e _ (by decide)]; exact h.st
  · rw [e _ (by decide)]; exact h.wk
  · rw [e _ (by decide)]; exact h.ln
  · rw [e 0 (by decide)] at hi
    rw [e _ (by omega)]; exact h.tr i hi
  · rw [e 0 (by decide)] at hi
    rw [e _ (by omega)]; exact h.cl i hi
  · rw [e _ (by omega)]; exact h.wl x y hx hy
theorem isNB_hb (n c : Int) (d : Nat) : isNB (hb n c d) := Or.inr (Or.inr (Or.inr ⟨_, Nat.mod_lt _ (by decide), rfl⟩))
theorem isNB_lt {a c : Nat} (ha : isNB a) (hc : isNB c) : a = c ∨ a + 33 ≤ c ∨ c + 33 ≤ a := by
  rcases ha with rfl | rfl | rfl | ⟨k, h1, rfl⟩ <;> rcases hc with rfl | rfl | rfl | ⟨j, h2, rfl⟩ <;> omega
theorem isNB_rng {a : Nat} (ha : isNB a) : 1 ≤ a ∧ a + 33 ≤ 366 ∧ (a + 33 ≤ 100 ∨ 101 < a) := by
  rcases ha with rfl | rfl | rfl | ⟨k, h1, rfl⟩ <;> omega
theorem RWS.same (R : RWS σ) (h : ∀ b, isNB b → σ' (b + 6) = σ (b + 6)) : RWS σ' := fun b hb => (R b hb).same (h b hb)
/-- a network other than the changed one -/
theorem NR.offC {a : Nat} (h : NR b σ g) (G : GI K g) (R : RWS σ) (hb : isNB b) (ha : isNB a) (hab : a ≠ b) (hs : offN a σ σ') : NR b σ' g := by
  refine h.same (R b hb) G.tk.2 G.ln.2 (fun r h1 h2 => hs r ?_)
  rcases isNB_lt ha hb with e | e | e
  · exact absurd e hab
  · omega
  · omega
/-- history.keep -/
theorem c_keep {s N : Nat} (hN : 16 < N) (hsb : s = 1 ∨ s = 34) (h : NR s σ g) (G : GI K g) (R : RWS σ) (hn : 0 ≤ σ 100 1 ∧ σ 100 1 < 8) (hc : 0 ≤ σ 100 2 ∧ σ 100 2 ≤ 8) : ∃ σ', f_X6_keep N σ 100 s = some σ' ∧ NR (102 + 33 * (σ 100 1).toNat) σ' g ∧ (∀ r, r ≠ 100 → (r < 102 + 33 * (σ 100 1).toNat ∨ 102 + 33 * (σ 100 1).toNat + 33 ≤ r) → σ' r = σ r) ∧ σ' (102 + 33 * (σ 100 1).toNat + 6) = σ (102 + 33 * (σ 100 1).toNat + 6) ∧ σ' 100 1 = (if σ 100 1 = 7 then 0 else σ 100 1 + 1) ∧ σ' 100 2 = (if σ 100 2 = 8 then 8 else σ 100 2 + 1) := by
  obtain ⟨z, hz⟩ := Int.eq_ofNat_of_zero_le hn.1
  have hB : isNB (102 + 33 * z) := Or.inr (Or.inr (Or.inr ⟨z, by omega, rfl⟩))
  have hS : isNB s := by rcases hsb with h | h <;> rw [h]; exact Or.inl rfl; exact Or.inr (Or.inl rfl)
  obtain ⟨t, e1, e2, e3, e4⟩ := c_copy (b := 102 + 33 * z) (s := s) hN (by omega) h G (R _ hB) (R _ hS)
  unfold f_X6_keep
  have hz2 : (σ 100 1).toNat = z := by omega
  rw [if_pos (by omega), hz2, e1, Option.bind_some]
  have t100 : t 100 = σ 100 := e3 100 (by omega)
  simp only [bl_eq]
  rw [t100]
  have mn : ∀ v : Int, 0 ≤ v ∧ v ≤ 8 → f_J9_min_7cf53 (v + 1) 8 = some (if v = 8 then 8 else v + 1) := fun v hv => by
    unfold f_J9_min_7cf53
    repeat' split
    all_goals first | rfl | (exfalso; omega)
  by_cases h7 : σ 100 1 = 7
  · simp only [if_pos h7]
    rw [upm_cell (by decide), t100, if_pos (by unfold rng; omega), mn _ hc, Option.bind_some]
    refine ⟨_, rfl, ?_, fun r h1 h2 => ?_, ?_, ?_, ?_⟩
    · exact e2.same ((R _ hB).same e4) G.tk.2 G.ln.2 (fun r q1 q2 => by rw [upm_role (by omega), upm_role (by omega)])
    · rw [upm_role h1, upm_role h1]; exact e3 r h2
    · rw [upm_role (by omega), upm_role (by omega)]; exact e4
    · rw [upm_cell (by decide), upm_same]
    · rw [upm_same]
  · simp only [if_neg h7]
    rw [if_pos (by unfold rng; omega), upm_cell (by decide), t100, if_pos (by unfold rng; omega), mn _ hc, Option.bind_some]
    refine ⟨_, rfl, ?_, fun r h1 h2 => ?_, ?_, ?_, ?_⟩
    · exact e2.same ((R _ hB).same e4) G.tk.2 G.ln.2 (fun r q1 q2 => by rw [upm_role (by omega), upm_role (by omega)])
    · rw [upm_role h1, upm_role h1]; exact e3 r h2
    · rw [upm_role (by omega), upm_role (by omega)]; exact e4
    · rw [upm_cell (by decide), upm_same]
    · rw [upm_same]
end EQ
