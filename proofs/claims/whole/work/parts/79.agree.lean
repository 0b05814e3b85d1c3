/-! agreement of class and model, part 79 -/
/-! the changes of the model -/
section MC
variable {μ : Sm} {K : Int} {N : Nat}
/-- only the array now has changed, and it is g -/
def MS (μ μ' : Sm) (g : Ga) : Prop := (∀ r, r ≠ 1 → μ' r = μ r) ∧ μ' 1 = g
theorem MS.up {μ μ' : Sm} {g : Ga} (h : MS μ μ' g) (i : Nat) (v : Int) : MS μ (upm μ' 1 i v) (upf g i v) := by
  refine ⟨fun r hr => by rw [upm_role hr]; exact h.1 r hr, by rw [upm_upf, h.2]⟩
theorem MS.refl (μ : Sm) : MS μ μ (μ 1) := ⟨fun _ _ => rfl, rfl⟩
theorem m_addsStop (G : GI K (μ 1)) (x : Int) (q : μ 1 0 < 10) : ∃ μ', f_X13_addsStop μ x = some (μ', μ 1 0) ∧ MS μ μ' (gAS (μ 1) x) := by
  have h0 := G.st
  obtain ⟨z, hz⟩ := Int.eq_ofNat_of_zero_le h0.1
  unfold f_X13_addsStop
  simp only [bl_eq]
  rw [if_pos (by omega), show (12 + 2 * μ 1 0 + 0).toNat = 12 + 2 * z by omega, upm_cell (by omega), upm_same, if_pos (by unfold rng; omega), if_pos (by unfold rng; omega), show μ 1 0 + 1 - 1 = μ 1 0 by omega]
  refine ⟨_, rfl, ?_⟩
  unfold gAS
  rw [hz, Int.toNat_natCast]
  have := ((MS.refl μ).up (12 + 2 * z) x).up 0 (μ 1 0 + 1)
  rw [hz] at this
  exact this
theorem m_setWalk {a c : Nat} (ha : a < 10) (hc : c < 10) (m : Int) : f_X13_setWalk μ a c m = some (upm (upm μ 1 (32 + 10 * a + c) m) 1 (32 + 10 * c + a) m) := by
  unfold f_X13_setWalk
  rw [if_pos (by omega), bl_eq, if_pos (by omega), bl_eq, show (32 + 10 * (a : Int) + c).toNat = 32 + 10 * a + c by omega, show (32 + 10 * (c : Int) + a).toNat = 32 + 10 * c + a by omega]
theorem m_addsWalk (G : GI K (μ 1)) {a c : Nat} (ha : a < 10) (hc : c < 10) (m : Int) (hK : K ≤ 1000000) : ∃ μ', f_X13_addsWalk μ a c m = some (μ', μ 1 1 + 1) ∧ MS μ μ' (gAW (μ 1) a c m) := by
  have h0 := G.wk
  unfold f_X13_addsWalk
  rw [m_setWalk ha hc, Option.bind_some, upm_cell (by omega), upm_cell (by omega), if_pos (by unfold rng; omega), bl_eq, upm_same]
  exact ⟨_, rfl, (((MS.refl μ).up _ m).up _ m).up 1 _⟩
theorem m_removesWalk (G : GI K (μ 1)) {a c : Nat} (ha : a < 10) (hc : c < 10) (hK : K ≤ 1000000) : ∃ μ', f_X13_removesWalk μ a c = some (μ', wlki (μ 1) a c) ∧ MS μ μ' (gRW (μ 1) a c) := by
  have h0 := G.wk
  unfold f_X13_removesWalk
  rw [m_walk ha hc, Option.bind_some, m_setWalk ha hc, Option.bind_some, upm_cell (by omega), upm_cell (by omega), if_pos (by unfold rng; omega), bl_eq]
  exact ⟨_, rfl, (((MS.refl μ).up _ 0).up _ 0).up 1 _⟩
theorem m_setLine {c v : Nat} (hc : c < 5) (hv : v < 16) (x : Int) : f_X13_setLine μ (c : Int) (v : Int) x = some (upm μ 1 (132 + 16 * c + v) x) := by
  unfold f_X13_setLine
  rw [if_pos (by omega), show (132 + 16 * (c : Int) + v).toNat = 132 + 16 * c + v by omega]; rfl
theorem m_addsLine (G : GI K (μ 1)) (x1 x2 x3 x4 : Int) (q : μ 1 2 < 5) : ∃ μ', f_X13_addsLine μ x1 x2 x3 x4 = some (μ', μ 1 2) ∧ MS μ μ' (gAL (μ 1) x1 x2 x3 x4) := by
  have h0 := G.ln
  obtain ⟨L, hL⟩ := Int.eq_ofNat_of_zero_le h0.1
  unfold f_X13_addsLine gAL
  rw [bl_eq, hL, Int.toNat_natCast]
  have e0 := fun μ : Sm => m_setLine (μ := μ) (c := L) (v := 0) (by omega) (by decide) x1
  have e1 := fun μ : Sm => m_setLine (μ := μ) (c := L) (v := 1) (by omega) (by decide) x2
  have e2 := fun μ : Sm => m_setLine (μ := μ) (c := L) (v := 2) (by omega) (by decide) x3
  have e4 := fun μ : Sm => m_setLine (μ := μ) (c := L) (v := 4) (by omega) (by decide) x4
  rw [show f_X13_setLine μ (L : Int) 0 x1 = _ from e0 μ, Option.bind_some]
  rw [show ∀ μ : Sm, f_X13_setLine μ (L : Int) 1 x2 = _ from e1, Option.bind_some, show ∀ μ : Sm, f_X13_setLine μ (L : Int) 2 x3 = _ from e2, Option.bind_some, show ∀ μ : Sm, f_X13_setLine μ (L : Int) 4 x4 = _ from e4, Option.bind_some]
  rw [upm_cell (by omega), upm_cell (by omega), upm_cell (by omega), upm_cell (by omega), hL, if_pos (by unfold rng; omega), bl_eq]
  exact ⟨_, rfl, (((((MS.refl μ).up _ x1).up _ x2).up _ x3).up _ x4).up 2 _⟩
theorem m_extend (G : GI K (μ 1)) {c : Nat} (hc : c < 5) (s : Int) (h6 : gl (μ 1) c 5 < 6) : ∃ μ', f_X13_extend μ c s = some (μ', gl (μ 1) c 5 + 1) ∧ MS μ μ' (gEx (μ 1) c s) := by
  have sz := (G.li c hc).sz
  obtain ⟨z, hz⟩ := Int.eq_ofNat_of_zero_le sz.1
  unfold f_X13_extend gEx
  rw [m_l5 hc, Option.bind_some, hz, if_pos (by unfold rng; omega), show 7 + (z : Int) = ((7 + z : Nat) : Int) by omega, m_setLine hc (by omega), Option.bind_some, m_l5 hc, Option.bind_some]
  have e : gl (upm μ 1 (132 + 16 * c + (7 + z)) s 1) c 5 = z := by unfold gl; rw [upm_cell (by omega)]; exact hz
  rw [e, if_pos (by unfold rng; omega)]
  have e5 := fun (μ : Sm) (x : Int) => m_setLine (μ := μ) (c := c) (v := 5) hc (by decide) x
  rw [show ∀ (μ : Sm) (x : Int), f_X13_setLine μ (c : Int) 5 x = _ from e5, Option.bind_some, m_l5 hc, Option.bind_some]
  refine ⟨_, by rw [show gl (upm (upm μ 1 (132 + 16 * c + (7 + z)) s) 1 (132 + 16 * c + 5) (↑z + 1) 1) c 5 = (z : Int) + 1 from upm_same _ _ _ _], ?_⟩
  rw [Int.toNat_natCast]
  exact ((MS.refl μ).up _ s).up _ _
theorem m_shorten (G : GI K (μ 1)) {c : Nat} (hc : c < 5) (h6 : gl (μ 1) c 5 ≠ 0) : ∃ μ', f_X13_shorten μ c = some (μ', gl (μ 1) c (7 + (gl (μ 1) c 5 - 1).toNat)) ∧ MS μ μ' (gSh (μ 1) c) := by
  have sz := (G.li c hc).sz
  obtain ⟨z, hz⟩ := Int.eq_ofNat_of_zero_le (show 0 ≤ gl (μ 1) c 5 - 1 by omega)
  unfold f_X13_shorten gSh
  rw [m_l5 hc, Option.bind_some, bl_eq, hz, if_pos (by unfold rng; omega), m_lr hc (by omega), Option.bind_some, show 7 + (z : Int) = ((7 + z : Nat) : Int) by omega, m_setLine hc (by omega), Option.bind_some, if_pos (by unfold rng; omega)]
  have e5 := fun (μ : Sm) (x : Int) => m_setLine (μ := μ) (c := c) (v := 5) hc (by decide) x
  rw [show ∀ (μ : Sm) (x : Int), f_X13_setLine μ (c : Int) 5 x = _ from e5, Option.bind_some]
  exact ⟨_, rfl, ((MS.refl μ).up _ 0).up _ _⟩
theorem m_flag {i : Nat} (hi : i < 340) {v : Int} (hv : bit v) : ∃ μ', f_X13_flag μ (i : Int) v = some (μ', μ 1 i) ∧ MS μ μ' (upf (μ 1) i v) := by
  unfold f_X13_flag
  rw [if_pos (by omega), bl_eq, Int.toNat_natCast]
  rcases hv with rfl | rfl
  · rw [if_pos rfl, bl_eq]; exact ⟨_, rfl, (MS.refl μ).up _ _⟩
  · rw [if_neg (by decide), bl_eq]; exact ⟨_, rfl, (MS.refl μ).up _ _⟩
theorem m_delays {c : Nat} (hc : c < 5) (v : Int) : ∃ μ', f_X13_delays μ c v = some (μ', gl (μ 1) c 3) ∧ MS μ μ' (upf (μ 1) (132 + 16 * c + 3) v) := by
  have e5 := fun (μ : Sm) (x : Int) => m_setLine (μ := μ) (c := c) (v := 3) hc (by decide) x
  unfold f_X13_delays
  rw [m_l3 hc, Option.bind_some, show ∀ (μ : Sm) (x : Int), f_X13_setLine μ (c : Int) 3 x = _ from e5, Option.bind_some]
  exact ⟨_, rfl, (MS.refl μ).up _ _⟩
end MC
