/-! agreement of class and model, part 78 -/
/-! more changes of the class -/
section NC2
variable {b : Nat} {σ σ' : Sm} {g g' : Ga} {K : Int}
theorem wcell {a c x y : Nat} (hc : c < 10) (hy : y < 10) : 10 * a + c = 10 * x + y ↔ a = x ∧ c = y := by omega
theorem c_walkChg (h : NR b σ g) (G : GI K g) (R : RW b σ) {a c : Nat} (ha : a < 10) (hc : c < 10) (m n : Int) (hn : rng n) : NR b (upm (upm (upm σ (b + 3) (10 * a + c) m) (b + 3) (10 * c + a) m) b 5 n) (upf (upf (upf g (32 + 10 * a + c) m) (32 + 10 * c + a) m) 1 n) ∧ offN b σ (upm (upm (upm σ (b + 3) (10 * a + c) m) (b + 3) (10 * c + a) m) b 5 n) := by
  have n3 : b + 3 ≠ b := by omega
  have n4 : b ≠ b + 3 := by omega
  have en : ∀ i, i ≠ 1 → (i < 32 ∨ 132 ≤ i) → upf (upf (upf g (32 + 10 * a + c) m) (32 + 10 * c + a) m) 1 n i = g i := fun i h1 h2 => by rw [upf_ne h1, upf_ne (by omega), upf_ne (by omega)]
  constructor
  · refine h.low G R (fun r h1 h2 => ?_) (fun i h1 h2 => en i (by omega) (by omega)) ⟨en _ (by omega) (by omega), en _ (by omega) (by omega), en _ (by omega) (by omega), en _ (by omega) (by omega), en _ (by omega) (by omega), en _ (by omega) (by omega)⟩ ?_ ?_ ?_ ?_ ?_ (fun i hi => ?_) (fun i hi => ?_) (fun x y hx hy => ?_)
    · rw [upm_role (by omega), upm_role (by omega), upm_role (by omega)]
    · rw [upm_cell (by decide), upm_role n4, upm_role n4, en _ (by omega) (by omega)]; exact h.mi
    · rw [upm_cell (by decide), upm_role n4, upm_role n4, en _ (by omega) (by omega)]; exact h.ra
    · rw [upm_cell (by decide), upm_role n4, upm_role n4, en _ (by omega) (by omega)]; exact h.st
    · rw [upm_same, upf_eq]
    · rw [upm_cell (by decide), upm_role n4, upm_role n4, en _ (by omega) (by omega)]; exact h.ln
    · have := G.st
      rw [en 0 (by decide) (by omega)] at hi
      rw [upm_role (by omega), upm_role (by omega), upm_role (by omega), en _ (by omega) (by omega)]; exact h.tr i hi
    · have := G.st
      rw [en 0 (by decide) (by omega)] at hi
      rw [upm_role (by omega), upm_role (by omega), upm_role (by omega), en _ (by omega) (by omega)]; exact h.cl i hi
    · rw [upm_role n3, upf_ne (by omega)]
      by_cases q : x = c ∧ y = a
      · obtain ⟨rfl, rfl⟩ := q
        rw [upm_same, upf_eq]
      · rw [upm_cell (by omega), upf_ne (by omega)]
        by_cases q2 : x = a ∧ y = c
        · obtain ⟨rfl, rfl⟩ := q2
          rw [upm_same, upf_eq]
        · rw [upm_cell (by omega), upf_ne (by omega)]; exact h.wl x y hx hy
  · intro r hr
    rw [upm_role (by omega), upm_role (by omega), upm_role (by omega)]
theorem c_putWalk (h : NR b σ g) (G : GI K g) (R : RW b σ) {a c : Nat} (ha : a < 10) (hc : c < 10) (m : Int) (hK : K ≤ 1000000) : ∃ σ', f_X8_putWalk σ b a c m = some (σ', g 1 + 1) ∧ NR b σ' (gAW g a c m) ∧ offN b σ σ' ∧ σ' (b + 6) = σ (b + 6) := by
  have h1 := G.wk
  obtain ⟨q1, q2⟩ := c_walkChg h G R ha hc m (g 1 + 1) (by unfold rng; omega)
  have n4 : b ≠ b + 3 := by omega
  unfold f_X8_putWalk
  simp only [bl_eq]
  rw [if_pos (by omega), if_pos (by omega), show ((a : Int) * 10 + c).toNat = 10 * a + c by omega, show ((c : Int) * 10 + a).toNat = 10 * c + a by omega, upm_same, upm_role n4, upm_role n4, h.wk, if_pos (by unfold rng; omega)]
  exact ⟨_, rfl, q1, q2, by rw [upm_role (by omega), upm_role (by omega), upm_role (by omega)]⟩
theorem c_dropWalk (h : NR b σ g) (G : GI K g) (R : RW b σ) {a c : Nat} (ha : (a : Int) < g 0) (hc : (c : Int) < g 0) (hK : K ≤ 1000000) : ∃ σ', f_X8_dropWalk σ b a c = some (σ', wlki g a c) ∧ NR b σ' (gRW g a c) ∧ offN b σ σ' ∧ σ' (b + 6) = σ (b + 6) := by
  have h1 := G.wk
  have h0 := G.st
  obtain ⟨q1, q2⟩ := c_walkChg h G R (a := a) (c := c) (by omega) (by omega) 0 (g 1 - 1) (by unfold rng; omega)
  have n4 : b ≠ b + 3 := by omega
  unfold f_X8_dropWalk
  rw [c_walkB h G ⟨by omega, ha⟩ ⟨by omega, hc⟩, Option.bind_some]
  simp only [bl_eq]
  rw [if_pos (by omega), if_pos (by omega), show ((a : Int) * 10 + c).toNat = 10 * a + c by omega, show ((c : Int) * 10 + a).toNat = 10 * c + a by omega, upm_role n4, upm_role n4, h.wk, if_pos (by unfold rng; omega)]
  exact ⟨_, rfl, q1, q2, by rw [upm_role (by omega), upm_role (by omega), upm_role (by omega)]⟩
theorem c_putLine (h : NR b σ g) (G : GI K g) (R : RW b σ) (x1 x2 x3 x4 : Int) (q : g 2 < 5) : ∃ σ', f_X8_putLine σ b x1 x2 x3 x4 = some (σ', g 2) ∧ NR b σ' (gAL g x1 x2 x3 x4) ∧ offN b σ σ' ∧ σ' (b + 6) = σ (b + 6) := by
  have h0 := G.ln
  obtain ⟨L, hL⟩ := Int.eq_ofNat_of_zero_le h0.1
  have oL := (G.li L (by omega)).off (by omega)
  have e0 : gAL g x1 x2 x3 x4 2 = g 2 + 1 := upf_eq _ _ _
  have en : ∀ i, i ≠ 2 → (i < 132 + 16 * L ∨ 132 + 16 * L + 2 < i) → i ≠ 132 + 16 * L + 4 → gAL g x1 x2 x3 x4 i = g i := fun i h1 h2 h3 => by
    unfold gAL; rw [hL, Int.toNat_natCast, upf_ne h1, upf_ne h3, upf_ne (by omega), upf_ne (by omega), upf_ne (by omega)]
  have eL : ∀ w, gl (gAL g x1 x2 x3 x4) L w = if w = 0 then x1 else if w = 1 then x2 else if w = 2 then x3 else if w = 4 then x4 else gl g L w := fun w => by
    unfold gl gAL upf
    rw [hL, Int.toNat_natCast]
    repeat' split
    all_goals first | rfl | omega
  have n1 : b ≠ b + 23 + 2 * L := by omega
  unfold f_X8_putLine f_X7_begin
  simp only [bl_eq, Option.bind_some]
  rw [h.ln, hL, Int.toNat_natCast, if_pos (by omega), if_pos (by omega), upm_same, upm_role n1, upm_role n1, upm_role n1, upm_role n1, upm_role n1, upm_role n1, upm_role n1, h.ln, hL, if_pos (by unfold rng; omega), if_pos (by unfold rng; omega)]
  refine ⟨_, by rw [show (L : Int) + 1 - 1 = (L : Int) by omega], ?_, fun r hr => ?_, ?_⟩
  · refine h.lin G R L (fun r h1 h2 h3 h4 => ?_) (fun i hi => ?_) (fun i h1 h2 => en i h1 (by omega) (by omega)) (by omega) ?_ (fun c h1 h2 => ?_) (fun _ => ?_) (fun _ p hp => ?_)
    · rw [upm_role (by omega), upm_role h3, upm_role h3, upm_role h3, upm_role h3, upm_role h3, upm_role h3, upm_role h3]
    · rw [upm_cell hi, upm_role n1, upm_role n1, upm_role n1, upm_role n1, upm_role n1, upm_role n1, upm_role n1]
    · rw [upm_same, e0, hL]
    · rw [e0] at h1; omega
    · rw [eL, eL, eL, eL, eL, eL, eL]
      simp [upm, n1.symm, oL.1, oL.2.1, oL.2.2]
    · rw [eL] at hp
      have : gl g L 5 = 0 := oL.2.1
      simp at hp; omega
  · rw [upm_role (by omega), upm_role (by omega), upm_role (by omega), upm_role (by omega), upm_role (by omega), upm_role (by omega), upm_role (by omega), upm_role (by omega)]
  · rw [upm_role (by omega), upm_role (by omega), upm_role (by omega), upm_role (by omega), upm_role (by omega), upm_role (by omega), upm_role (by omega), upm_role (by omega)]
theorem c_append (h : NR b σ g) (G : GI K g) (R : RW b σ) {c : Nat} (hc : (c : Int) < g 2) (s : Int) (h6 : gl g c 5 < 6) : ∃ σ', f_X7_append σ (b + 23 + 2 * c) s = some (σ', gl g c 5 + 1) ∧ NR b σ' (gEx g c s) ∧ offN b σ σ' ∧ σ' (b + 6) = σ (b + 6) := by
  have h0 := G.ln
  have L := G.li c (by omega)
  have sz := L.sz
  obtain ⟨z, hz⟩ := Int.eq_ofNat_of_zero_le sz.1
  have hh := h.li c hc
  have e5 : gl (gEx g c s) c 5 = gl g c 5 + 1 := by unfold gEx; exact upf_eq _ _ _
  have en : ∀ i, i ≠ 132 + 16 * c + 5 → i ≠ 132 + 16 * c + (7 + z) → gEx g c s i = g i := fun i h1 h2 => by unfold gEx; rw [hz, Int.toNat_natCast, upf_ne h1, upf_ne h2]
  have es : gl (gEx g c s) c (7 + z) = s := by unfold gl gEx; rw [hz, Int.toNat_natCast, upf_ne (by omega), upf_eq]
  have eL : ∀ w, w ≠ 5 → w ≠ 7 + z → gl (gEx g c s) c w = gl g c w := fun w h1 h2 => by unfold gl; rw [en _ (by omega) (by omega)]
  have n1 : b + 23 + 2 * c ≠ b + 23 + 2 * c + 1 := by omega
  unfold f_X7_append
  simp only [bl_eq]
  rw [hh.2.2.2.2.2.2, if_neg (by omega), if_pos (by omega), hz, Int.toNat_natCast, upm_same, upm_role n1, hh.2.2.2.2.2.2, hz, if_pos (by unfold rng; omega)]
  refine ⟨_, rfl, ?_, fun r hr => ?_, ?_⟩
  · refine h.lin G R c (fun r h1 h2 h3 h4 => ?_) (fun i hi => ?_) (fun i h1 h2 => en i (by omega) (by omega)) (by omega) ?_ (fun d h1 h2 => ?_) (fun _ => ?_) (fun _ p hp => ?_)
    · rw [upm_role h3, upm_role h4]
    · rw [upm_role (by omega), upm_role (by omega)]
    · rw [upm_role (by omega), upm_role (by omega), en 2 (by omega) (by omega)]; exact h.ln
    · rw [en 2 (by omega) (by omega)] at h1; exact h1
    · have u : ∀ w, w ≠ 6 → upm (upm σ (b + 23 + 2 * c + 1) z s) (b + 23 + 2 * c) 6 ((z : Int) + 1) (b + 23 + 2 * c) w = σ (b + 23 + 2 * c) w := fun w hw => by rw [upm_cell hw, upm_role n1]
      rw [e5, eL 0 (by omega) (by omega), eL 1 (by omega) (by omega), eL 2 (by omega) (by omega), eL 3 (by omega) (by omega), eL 4 (by omega) (by omega), eL 6 (by omega) (by omega), u 0 (by decide), u 1 (by decide), u 2 (by decide), u 3 (by decide), u 4 (by decide), u 5 (by decide), upm_same, hz]
      exact ⟨hh.1, hh.2.1, hh.2.2.1, hh.2.2.2.1, hh.2.2.2.2.1, hh.2.2.2.2.2.1, rfl⟩
    · rw [e5] at hp
      rw [upm_role n1.symm]
      by_cases q : p = z
      · subst q; rw [upm_same, es]
      · rw [upm_cell q, eL _ (by omega) (by omega)]; exact h.rg c hc p (by omega)
  · rw [upm_role (by omega), upm_role (by omega)]
  · rw [upm_role (by omega), upm_role (by omega)]
theorem c_dropLast (h : NR b σ g) (G : GI K g) (R : RW b σ) {c : Nat} (hc : (c : Int) < g 2) (h6 : gl g c 5 ≠ 0) : ∃ σ', f_X7_dropLast σ (b + 23 + 2 * c) = some (σ', gl g c (7 + (gl g c 5 - 1).toNat)) ∧ NR b σ' (gSh g c) ∧ offN b σ σ' ∧ σ' (b + 6) = σ (b + 6) := by
  have h0 := G.ln
  have L := G.li c (by omega)
  have sz := L.sz
  obtain ⟨z, hz⟩ := Int.eq_ofNat_of_zero_le (show 0 ≤ gl g c 5 - 1 by omega)
  have hh := h.li c hc
  have e5 : gl (gSh g c) c 5 = gl g c 5 - 1 := by unfold gSh; exact upf_eq _ _ _
  have en : ∀ i, i ≠ 132 + 16 * c + 5 → i ≠ 132 + 16 * c + (7 + z) → gSh g c i = g i := fun i h1 h2 => by unfold gSh; rw [hz, Int.toNat_natCast, upf_ne h1, upf_ne h2]
  have eL : ∀ w, w ≠ 5 → w ≠ 7 + z → gl (gSh g c) c w = gl g c w := fun w h1 h2 => by unfold gl; rw [en _ (by omega) (by omega)]
  have n1 : b + 23 + 2 * c + 1 ≠ b + 23 + 2 * c := by omega
  unfold f_X7_dropLast
  simp only [bl_eq]
  rw [hh.2.2.2.2.2.2, if_neg h6, if_pos (by unfold rng; omega), upm_same, if_pos (by omega), upm_role n1, h.rg c hc _ (by omega), hz, Int.toNat_natCast]
  refine ⟨_, rfl, ?_, fun r hr => ?_, ?_⟩
  · refine h.lin G R c (fun r h1 h2 h3 h4 => ?_) (fun i hi => ?_) (fun i h1 h2 => en i (by omega) (by omega)) (by omega) ?_ (fun d h1 h2 => ?_) (fun _ => ?_) (fun _ p hp => ?_)
    · rw [upm_role h3]
    · rw [upm_role (by omega)]
    · rw [upm_role (by omega), en 2 (by omega) (by omega)]; exact h.ln
    · rw [en 2 (by omega) (by omega)] at h1; exact h1
    · rw [e5, eL 0 (by omega) (by omega), eL 1 (by omega) (by omega), eL 2 (by omega) (by omega), eL 3 (by omega) (by omega), eL 4 (by omega) (by omega), eL 6 (by omega) (by omega), upm_cell (by decide), upm_cell (by decide), upm_cell (by decide), upm_cell (by decide), upm_cell (by decide), upm_cell (by decide), upm_same, hz]
      exact ⟨hh.1, hh.2.1, hh.2.2.1, hh.2.2.2.1, hh.2.2.2.2.1, hh.2.2.2.2.2.1, rfl⟩
    · rw [e5] at hp
      rw [upm_role n1, eL _ (by omega) (by omega)]; exact h.rg c hc p (by omega)
  · rw [upm_role (by omega)]
  · rw [upm_role (by omega)]
theorem c_rain (h : NR b σ g) (G : GI K g) (R : RW b σ) (v : Int) : NR b (upm σ b 1 v) (upf g 6 v) ∧ offN b σ (upm σ b 1 v) ∧ upm σ b 1 v (b + 6) = σ (b + 6) := by
  have h0 := G.st
  have en : ∀ i, i ≠ 6 → upf g 6 v i = g i := fun i h => upf_ne h
  refine ⟨h.low G R (fun r h1 h2 => upm_role (by omega)) (fun i h1 h2 => en i (by omega)) ⟨en _ (by omega), en _ (by omega), en _ (by omega), en _ (by omega), en _ (by omega), en _ (by omega)⟩ ?_ ?_ ?_ ?_ ?_ (fun i hi => ?_) (fun i hi => ?_) (fun x y hx hy => ?_), fun r hr => upm_role (by omega), upm_role (by omega)⟩
  · rw [upm_cell (by decide), en _ (by omega)]; exact h.mi
  · rw [upm_same, upf_eq]
  · rw [upm_cell (by decide), en _ (by omega)]; exact h.st
  · rw [upm_cell (by decide), en _ (by omega)]; exact h.wk
  · rw [upm_cell (by decide), en _ (by omega)]; exact h.ln
  · rw [en 0 (by omega)] at hi
    rw [upm_role (by omega), en _ (by omega)]; exact h.tr i hi
  · rw [en 0 (by omega)] at hi
    rw [upm_role (by omega), en _ (by omega)]; exact h.cl i hi
  · rw [upm_role (by omega), en _ (by omega)]; exact h.wl x y hx hy
theorem c_close (h : NR b σ g) (G : GI K g) (R : RW b σ) {j : Nat} (hj : (j : Int) < g 0) (v : Int) : NR b (upm σ (b + 2) j v) (upf g (13 + 2 * j) v) ∧ offN b σ (upm σ (b + 2) j v) ∧ upm σ (b + 2) j v (b + 6) = σ (b + 6) := by
  have h0 := G.st
  have en : ∀ i, i ≠ 13 + 2 * j → upf g (13 + 2 * j) v i = g i := fun i h => upf_ne h
  refine ⟨h.low G R (fun r h1 h2 => upm_role (by omega)) (fun i h1 h2 => en i (by omega)) ⟨en _ (by omega), en _ (by omega), en _ (by omega), en _ (by omega), en _ (by omega), en _ (by omega)⟩ ?_ ?_ ?_ ?_ ?_ (fun i hi => ?_) (fun i hi => ?_) (fun x y hx hy => ?_), fun r hr => upm_role (by omega), upm_role (by omega)⟩
  · rw [upm_role (by omega), en _ (by omega)]; exact h.mi
  · rw [upm_role (by omega), en _ (by omega)]; exact h.ra
  · rw [upm_role (by omega), en _ (by omega)]; exact h.st
  · rw [upm_role (by omega), en _ (by omega)]; exact h.wk
  · rw [upm_role (by omega), en _ (by omega)]; exact h.ln
  · rw [en 0 (by omega)] at hi
    rw [upm_role (by omega), en _ (by omega)]; exact h.tr i hi
  · rw [en 0 (by omega)] at hi
    by_cases q : i = j
    · subst q; rw [upm_same, upf_eq]
    · rw [upm_cell q, en _ (by omega)]; exact h.cl i hi
  · rw [upm_role (by omega), en _ (by omega)]; exact h.wl x y hx hy
/-- cell 3 (delay) or 5 (suspended) of a line -/
theorem c_lineCell (h : NR b σ g) (G : GI K g) (R : RW b σ) {c : Nat} (hc : (c : Int) < g 2) (w : Nat) (v : Int) (hw : w = 3 ∨ w = 6) : NR b (upm σ (b + 23 + 2 * c) (if w = 3 then 3 else 5) v) (upf g (132 + 16 * c + w) v) ∧ offN b σ (upm σ (b + 23 + 2 * c) (if w = 3 then 3 else 5) v) ∧ upm σ (b + 23 + 2 * c) (if w = 3 then 3 else 5) v (b + 6) = σ (b + 6) := by
  have h0 := G.ln
  have hh := h.li c hc
  have en : ∀ i, i ≠ 132 + 16 * c + w → upf g (132 + 16 * c + w) v i = g i := fun i h => upf_ne h
  have eL : ∀ x, x ≠ w → gl (upf g (132 + 16 * c + w) v) c x = gl g c x := fun x h => by unfold gl; rw [en _ (by omega)]
  have ew : gl (upf g (132 + 16 * c + w) v) c w = v := upf_eq _ _ _
  refine ⟨h.lin G R c (fun r h1 h2 h3 h4 => upm_role h3) (fun i hi => by rw [upm_role (by omega)]) (fun i h1 h2 => en i (by omega)) (by omega) ?_ (fun d h1 h2 => ?_) (fun _ => ?_) (fun _ p hp => ?_), fun r hr => upm_role (by omega), upm_role (by omega)⟩
  · rw [upm_role (by omega), en 2 (by omega)]; exact h.ln
  · rw [en 2 (by omega)] at h1; exact h1
  · rcases hw with rfl | rfl
    · rw [ew, eL 0 (by decide), eL 1 (by decide), eL 2 (by decide), eL 4 (by decide), eL 5 (by decide), eL 6 (by decide), if_pos rfl, upm_same, upm_cell (by decide), upm_cell (by decide), upm_cell (by decide), upm_cell (by decide), upm_cell (by decide), upm_cell (by decide)]
      exact ⟨hh.1, hh.2.1, hh.2.2.1, rfl, hh.2.2.2.2.1, hh.2.2.2.2.2.1, hh.2.2.2.2.2.2⟩
    · rw [ew, eL 0 (by decide), eL 1 (by decide), eL 2 (by decide), eL 3 (by decide), eL 4 (by decide), eL 5 (by decide), if_neg (by decide), upm_same, upm_cell (by decide), upm_cell (by decide), upm_cell (by decide), upm_cell (by decide), upm_cell (by decide), upm_cell (by decide)]
      exact ⟨hh.1, hh.2.1, hh.2.2.1, hh.2.2.2.1, hh.2.2.2.2.1, rfl, hh.2.2.2.2.2.2⟩
  · rw [eL 5 (by omega)] at hp
    rw [upm_role (by omega), eL _ (by omega)]; exact h.rg c hc p hp
end NC2
