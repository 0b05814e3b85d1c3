/-! agreement of class and model, part 92 -/
/-! undo, save, restore, type, outputAt -/
section US
variable {σ μ : Sm} {g : Ga} {K : Int} {N : Nat}
theorem op_undo (I : INV K σ μ) (hN : 340 < N) : OK2 (f_X12_undo N σ) (f_X13_undo N μ) K [(3, 1)] := by
  have hc := I.hc
  have hn8 := I.hn
  unfold f_X12_undo f_X13_undo
  rw [hc.1]
  by_cases q : μ 12 0 = 0
  · rw [if_pos q, if_pos (by omega)]
    refine OK2.no (z := 3) (w := 1) (v := 0) I rfl ?_ (by decide) (by decide)
    rw [ck0, Option.bind_some]; rfl
  · rw [if_neg q, if_neg (by omega)]
    obtain ⟨k, hk⟩ := Int.eq_ofNat_of_zero_le (show 0 ≤ μ 12 0 - 1 by omega)
    obtain ⟨n, hn⟩ := Int.eq_ofNat_of_zero_le hn8.1
    obtain ⟨h1, h2⟩ := I.hi k (by omega)
    have ehb : hb (σ 100 1) (μ 12 0) k = 102 + 33 * ((n + 7) % 8) := by unfold hb; rw [hn]; omega
    rw [ehb] at h1
    have hB : isNB (102 + 33 * ((n + 7) % 8)) := Or.inr (Or.inr (Or.inr ⟨_, Nat.mod_lt _ (by decide), rfl⟩))
    -- the class
    have hcl : ∃ σ', f_X6_bringBack N σ 100 1 = some σ' ∧ σ' 100 2 = (k : Int) ∧ σ' 100 1 = (((n + 7) % 8 : Nat) : Int) ∧ NR 1 σ' (hblk μ k) ∧ RWS σ' ∧ ∀ r, r ≠ 100 → (r < 1 ∨ 34 ≤ r) → σ' r = σ r := by
      have copy : ∀ s : Sm, (∀ r, r ≠ 100 → s r = σ r) → ∃ t, f_X8_copyFrom N s 1 (102 + 33 * ((n + 7) % 8)) = some t ∧ NR 1 t (hblk μ k) ∧ offN 1 s t ∧ t 7 = s 7 := fun s hs => by
        have R' : RWS s := I.rw.same (fun b hb => hs _ (by have := isNB_rng hb; omega))
        exact c_copy (b := 1) (s := 102 + 33 * ((n + 7) % 8)) (by omega) (by omega) (h1.same (I.rw _ hB) h2.tk.2 h2.ln.2 (fun r r1 r2 => hs r (by omega))) h2 (R' 1 (Or.inl rfl)) (R' _ hB)
      have fin : ∀ s t : Sm, (∀ r, r ≠ 100 → s r = σ r) → s 100 2 = μ 12 0 → s 100 1 = (((n + 7) % 8 : Nat) : Int) → NR 1 t (hblk μ k) → offN 1 s t → t 7 = s 7 → upm t 100 2 (k : Int) 100 2 = (k : Int) ∧ upm t 100 2 (k : Int) 100 1 = (((n + 7) % 8 : Nat) : Int) ∧ NR 1 (upm t 100 2 (k : Int)) (hblk μ k) ∧ RWS (upm t 100 2 (k : Int)) ∧ ∀ r, r ≠ 100 → (r < 1 ∨ 34 ≤ r) → upm t 100 2 (k : Int) r = σ r := fun s t hs h3 h4 t1 t2 t3 => by
        have Rt : RW 1 t := ((I.rw 1 (Or.inl rfl)).same (hs 7 (by decide))).same t3
        refine ⟨upm_same _ _ _ _, ?_, ?_, ?_, fun r r1 r2 => ?_⟩
        · rw [upm_cell (by decide), t2 100 (by omega)]; exact h4
        · exact t1.same Rt h2.tk.2 h2.ln.2 (fun r r1 r2 => upm_role (by omega))
        · refine I.rw.same (fun b hb => ?_)
          have hr := isNB_rng hb
          rw [upm_role (by omega)]
          by_cases e : b = 1
          · subst e; rw [t3]; exact hs 7 (by decide)
          · rw [t2 _ (by rcases isNB_lt hb (Or.inl rfl) with e2 | e2 | e2 <;> omega)]; exact hs _ (by omega)
        · rw [upm_role r1, t2 r (by omega)]; exact hs r r1
      unfold f_X6_bringBack
      by_cases h0 : σ 100 1 = 0
      · have n0 : (n + 7) % 8 = 7 := by omega
        obtain ⟨t, t1, t2, t3, t4⟩ := copy (upm σ 100 1 7) (fun r hr => upm_role hr)
        have f := fin (upm σ 100 1 7) t (fun r hr => upm_role hr) (by rw [upm_cell (by decide)]; exact hc.1) (by rw [upm_same, n0]; rfl) t2 t3 t4
        rw [n0] at t1
        rw [if_pos h0, bl_eq, upm_same, if_pos (by decide), show 102 + 33 * (7 : Int).toNat = 102 + 33 * 7 from rfl, t1, Option.bind_some, t3 100 (by omega), upm_cell (by decide), hc.1, if_pos (by unfold rng; omega), hk]
        exact ⟨_, rfl, f⟩
      · have n0 : (n + 7) % 8 = n - 1 := by omega
        obtain ⟨t, t1, t2, t3, t4⟩ := copy (upm σ 100 1 (σ 100 1 - 1)) (fun r hr => upm_role hr)
        have f := fin (upm σ 100 1 (σ 100 1 - 1)) t (fun r hr => upm_role hr) (by rw [upm_cell (by decide)]; exact hc.1) (by rw [upm_same, n0]; omega) t2 t3 t4
        rw [n0] at t1
        rw [if_neg h0, if_pos (by unfold rng; omega), bl_eq, upm_same, if_pos (by omega), show (σ 100 1 - 1).toNat = n - 1 by omega, t1, Option.bind_some, t3 100 (by omega), upm_cell (by decide), hc.1, if_pos (by unfold rng; omega), hk]
        exact ⟨_, rfl, f⟩
    obtain ⟨σ', e1, e2, e3, e4, e5, e6⟩ := hcl
    -- the model
    have hcp := m_copy (μ := upm (upm μ 11 0 0) 12 0 (k : Int)) (N := N) (r0 := 4) (a := 340 * k) (r2 := 1) (c := 0) (by show _ ≤ 2720; omega) (by decide) (Or.inl (by decide)) hN
    have hm : ∃ μ', ((f_X13_checked μ 1).bind fun v12 => (if v12.2 ≤ 0 then if rng ((v12.1 12 0) - 1) then bl (upm v12.1 12 0 ((v12.1 12 0) - 1)) fun s16 => if rng (340 * (s16 12 0)) then (f_X13_copy N s16 4 (340 * (s16 12 0)) 1 0).bind fun s19 => some (s19, (s19 12 0)) else none else none else some (v12.1, 0))) = some (μ', (k : Int)) ∧ μ' 11 0 = 0 ∧ μ' 12 0 = k ∧ (∀ i, i < 340 → μ' 1 i = hblk μ k i) ∧ ∀ r, r ≠ 1 → r ≠ 11 → r ≠ 12 → μ' r = μ r := by
      refine ⟨cpb (upm (upm μ 11 0 0) 12 0 (k : Int)) 4 (340 * k) 1 0 340, ?_, ?_, ?_, fun i hi => ?_, fun r r1 r2 r3 => ?_⟩
      · rw [ck1, Option.bind_some]
        show (if (0 : Int) ≤ 0 then (if rng ((upm μ 11 0 0) 12 0 - 1) then bl (upm (upm μ 11 0 0) 12 0 ((upm μ 11 0 0) 12 0 - 1)) (fun s16 => if rng (340 * (s16 12 0)) then (f_X13_copy N s16 4 (340 * (s16 12 0)) 1 0).bind fun s19 => some (s19, (s19 12 0)) else none) else none) else some (upm μ 11 0 0, 0)) = _
        rw [if_pos (by decide), upm_role (show 12 ≠ 11 by decide), if_pos (show rng (μ 12 0 - 1) by unfold rng; omega), bl_eq, upm_same, if_pos (by unfold rng; omega), hk, show 340 * (k : Int) = ((340 * k : Nat) : Int) by omega, show (0 : Int) = ((0 : Nat) : Int) from rfl]
        rw [show f_X13_copy N (upm (upm μ 11 0 ((0 : Nat) : Int)) 12 0 (k : Int)) 4 ((340 * k : Nat) : Int) 1 ((0 : Nat) : Int) = _ from hcp, Option.bind_some]
        have : cpb (upm (upm μ 11 0 0) 12 0 (k : Int)) 4 (340 * k) 1 0 340 12 0 = (k : Int) := by unfold cpb; rw [if_neg (by omega), upm_same]
        rw [this]; rfl
      · unfold cpb; rw [if_neg (by omega), upm_role (by decide), upm_same]
      · unfold cpb; rw [if_neg (by omega), upm_same]
      · unfold cpb hblk; rw [if_pos (by omega), upm_role (by decide), upm_role (by decide)]; congr 1
      · funext j; unfold cpb; rw [if_neg (by omega), upm_role r3, upm_role r2]
    obtain ⟨μ', m1, m2, m3, m4, m5⟩ := hm
    refine ⟨σ', 0, (k : Int), μ', (k : Int), ?_, m1, Or.inl ⟨rfl, m2, rfl⟩, ?_⟩
    · rw [e1, Option.bind_some, e2]
    · refine rest_ok I (Int.le_refl _) I.kb.2 (e4.eqv h2 (e5 1 (Or.inl rfl)) m4) (h2.eqv m4) e5 (by rw [e3]; omega) (by rw [e2, m3]; omega) (fun d hd => ?_) (e6 0 (by decide) (by omega)) (fun r r1 r2 => e6 r (by omega) (by omega)) (fun r r1 => e6 r (by omega) (by omega)) (fun r r1 _ _ _ _ r5 r6 => m5 r r1 r5 r6)
      rw [m3] at hd ⊢
      obtain ⟨o1, o2⟩ := I.hi d (by omega)
      have eb : hb (σ' 100 1) (k : Int) d = hb (σ 100 1) (μ 12 0) d := by unfold hb; rw [e3, hn]; omega
      have eh : hblk μ' d = hblk μ d := by unfold hblk; rw [m5 4 (by decide) (by decide) (by decide)]
      rw [eb, eh]
      have hr := isNB_rng (isNB_hb (σ 100 1) (μ 12 0) d)
      have h102 : 102 ≤ hb (σ 100 1) (μ 12 0) d := by unfold hb; omega
      exact ⟨o1.same (I.rw _ (isNB_hb _ _ _)) o2.tk.2 o2.ln.2 (fun r r1 r2 => e6 r (by omega) (by omega)), o2⟩
theorem op_save (I : INV K σ μ) (hN : 340 < N) : ∃ σ' μ' w, f_X12_save N σ = some (σ', w) ∧ f_X13_save N μ = some (μ', w) ∧ INV K σ' μ' := by
  have hS : isNB 67 := Or.inr (Or.inr (Or.inl rfl))
  obtain ⟨t, e1, e2, e3, e4⟩ := c_copy (N := N) (b := 67) (s := 1) (by omega) (by omega) I.nr I.gi (I.rw _ hS) (I.rw _ (Or.inl rfl))
  have hcp := m_copy (μ := upm μ 11 0 0) (N := N) (r0 := 1) (a := 0) (r2 := 3) (c := 0) (by decide) (by decide) (by decide) hN
  have m3 : ∀ i, i < 340 → upm (cpb (upm μ 11 0 0) 1 0 3 0 340) 15 0 1 3 i = μ 1 i := fun i hi => by
    rw [upm_role (by decide)]; unfold cpb; rw [if_pos (by omega), upm_role (by decide), show 0 + (i - 0) = i by omega]
  have mo : ∀ r, r ≠ 3 → r ≠ 11 → r ≠ 15 → upm (cpb (upm μ 11 0 0) 1 0 3 0 340) 15 0 1 r = μ r := fun r h1 h2 h3 => by
    rw [upm_role h3]; funext j; unfold cpb; rw [if_neg (by omega), upm_role h2]
  have t6 : upm t 0 3 1 6 1 = μ 1 3 := by rw [upm_role (by decide), e3 6 (by omega)]; exact I.nr.tk
  refine ⟨upm t 0 3 1, upm (cpb (upm μ 11 0 0) 1 0 3 0 340) 15 0 1, μ 1 3, ?_, ?_, ?_⟩
  · unfold f_X12_save
    rw [e1, Option.bind_some, bl_eq, t6]
  · unfold f_X13_save
    rw [bl_eq, show f_X13_copy N (upm μ 11 0 0) 1 0 3 0 = _ from hcp, Option.bind_some, bl_eq, mo 1 (by decide) (by decide) (by decide)]
  · have ot : ∀ r, r ≠ 0 → (r < 67 ∨ 100 ≤ r) → upm t 0 3 1 r = σ r := fun r h1 h2 => by rw [upm_role h1]; exact e3 r (by omega)
    have Rt : RWS (upm t 0 3 1) := I.rw.same (fun b hb => by
      have hr := isNB_rng hb
      by_cases q : b = 67
      · subst q; rw [upm_role (by decide)]; exact e4
      · exact ot _ (by omega) (by rcases isNB_lt hb hS with e | e | e <;> omega))
    have eh : ∀ d, hblk (upm (cpb (upm μ 11 0 0) 1 0 3 0 340) 15 0 1) d = hblk μ d := fun d => by unfold hblk; rw [mo 4 (by decide) (by decide) (by decide)]
    refine INV.mk ?_ ?_ I.kb Rt ?_ ?_ ?_ ?_ ?_ ?_ ?_ ?_ ?_ ?_
    · rw [mo 1 (by decide) (by decide) (by decide)]
      exact I.nr.same (I.rw 1 (Or.inl rfl)) I.gi.tk.2 I.gi.ln.2 (fun r r1 r2 => ot r (by omega) (by omega))
    · rw [mo 1 (by decide) (by decide) (by decide)]; exact I.gi
    · rw [ot 100 (by decide) (by omega)]; exact I.hn
    · rw [ot 100 (by decide) (by omega), mo 12 (by decide) (by decide) (by decide)]; exact I.hc
    · intro d hd
      rw [mo 12 (by decide) (by decide) (by decide)] at hd ⊢
      rw [ot 100 (by decide) (by omega), eh]
      obtain ⟨o1, o2⟩ := I.hi d hd
      have hr := isNB_rng (isNB_hb (σ 100 1) (μ 12 0) d)
      have h102 : 102 ≤ hb (σ 100 1) (μ 12 0) d := by unfold hb; omega
      exact ⟨o1.same (I.rw _ (isNB_hb _ _ _)) o2.tk.2 o2.ln.2 (fun r r1 r2 => ot r (by omega) (by omega)), o2⟩
    · exact ⟨by rw [upm_same, upm_same], by rw [upm_same]; exact Or.inr rfl⟩
    · intro _
      exact ⟨((e2.same ((I.rw _ hS).same e4) I.gi.tk.2 I.gi.ln.2 (fun r r1 r2 => upm_role (by omega))).eqv I.gi (Rt _ hS) m3), I.gi.eqv m3⟩
    · rw [ot 386 (by decide) (by omega), mo 17 (by decide) (by decide) (by decide)]; exact I.sl
    · intro i hi
      rw [mo 17 (by decide) (by decide) (by decide)] at hi
      rw [ot 387 (by decide) (by omega), mo 8 (by decide) (by decide) (by decide)]; exact I.sg i hi
    · rw [upm_cell (by decide), e3 0 (by omega), mo 13 (by decide) (by decide) (by decide)]; exact I.er
    · rw [upm_cell (by decide), e3 0 (by omega), mo 14 (by decide) (by decide) (by decide)]; exact I.fl
    · obtain ⟨u, h1, h2⟩ := I.ot
      refine ⟨u, ?_, ?_⟩
      · unfold BI at h1 ⊢
        rw [ot 390 (by decide) (by omega), ot 391 (by decide) (by omega)]; exact h1
      · rw [mo 16 (by decide) (by decide) (by decide), mo 7 (by decide) (by decide) (by decide)]; exact h2
theorem op_restore (I : INV K σ μ) (hN : 340 < N) : OK2 (f_X12_restore N σ) (f_X13_restore N μ) K [(3, 1)] := by
  have hsv := I.sv
  have hS : isNB 67 := Or.inr (Or.inr (Or.inl rfl))
  unfold f_X12_restore f_X13_restore
  rw [hsv.1, if_pos hsv.2]
  rcases hsv.2 with q | q
  · rw [if_pos q, q]
    refine OK2.no (z := 3) (w := 1) (v := 0) I rfl ?_ (by decide) (by decide)
    rw [ck0, Option.bind_some]; rfl
  · rw [if_neg (by omega), q]
    obtain ⟨s1, s2⟩ := I.sn q
    obtain ⟨t, e1, e2, e3, e4⟩ := c_copy (N := N) (b := 1) (s := 67) (by omega) (by omega) s1 s2 (I.rw _ (Or.inl rfl)) (I.rw _ hS)
    have hcp := m_copy (μ := upm μ 11 0 0) (N := N) (r0 := 3) (a := 0) (r2 := 1) (c := 0) (by decide) (by decide) (by decide) hN
    have m1 : ∀ i, i < 340 → upm (cpb (upm μ 11 0 0) 3 0 1 0 340) 12 0 0 1 i = μ 3 i := fun i hi => by
      rw [upm_role (by decide)]; unfold cpb; rw [if_pos (by omega), upm_role (by decide), show 0 + (i - 0) = i by omega]
    have mo : ∀ r, r ≠ 1 → r ≠ 11 → r ≠ 12 → upm (cpb (upm μ 11 0 0) 3 0 1 0 340) 12 0 0 r = μ r := fun r h1 h2 h3 => by
      rw [upm_role h3]; funext j; unfold cpb; rw [if_neg (by omega), upm_role h2]
    have ot : ∀ r, r ≠ 100 → (r < 1 ∨ 34 ≤ r) → upm t 100 2 0 r = σ r := fun r h1 h2 => by rw [upm_role h1]; exact e3 r (by omega)
    have Rt : RWS (upm t 100 2 0) := I.rw.same (fun b hb => by
      have hr := isNB_rng hb
      by_cases q : b = 1
      · subst q; rw [upm_role (by decide)]; exact e4
      · exact ot _ (by omega) (by rcases isNB_lt hb (Or.inl rfl) with e | e | e <;> omega))
    have n1 : NR 1 (upm t 100 2 0) (μ 3) := e2.same ((I.rw 1 (Or.inl rfl)).same e4) s2.tk.2 s2.ln.2 (fun r r1 r2 => upm_role (by omega))
    have t6 : upm t 100 2 0 6 1 = μ 3 3 := n1.tk
    refine ⟨upm t 100 2 0, 0, μ 3 3, upm (cpb (upm μ 11 0 0) 3 0 1 0 340) 12 0 0, μ 3 3, ?_, ?_, Or.inl ⟨rfl, ?_, rfl⟩, ?_⟩
    · rw [e1, Option.bind_some, bl_eq, t6]
    · rw [ck1, Option.bind_some]
      dsimp only
      rw [if_pos (by decide), show f_X13_copy N (upm μ 11 0 0) 3 0 1 0 = _ from hcp, Option.bind_some, bl_eq, m1 3 (by decide)]
    · rw [upm_role (by decide)]; unfold cpb; rw [if_neg (by omega), upm_same]
    · refine rest_ok I (Int.le_refl _) I.kb.2 (n1.eqv s2 (Rt 1 (Or.inl rfl)) m1) (s2.eqv m1) Rt ?_ ?_ (fun d hd => ?_) (ot 0 (by decide) (by omega)) (fun r r1 r2 => ot r (by omega) (by omega)) (fun r r1 => ot r (by omega) (by omega)) (fun r r1 _ _ _ _ r5 r6 => mo r r1 r5 r6)
      · rw [upm_cell (by decide), e3 100 (by omega)]; exact I.hn
      · rw [upm_same, upm_same]; decide
      · rw [upm_same] at hd; omega
theorem op_type (I : INV K σ μ) (x : Int) : OK2 (f_X12_type σ x) (f_X13_type μ x) K [(2, 1), (3, 2)] := by
  have hsl := I.sl
  unfold f_X12_type f_X13_type
  rw [m_in, Option.bind_some, hsl.1]
  by_cases h1 : 32 ≤ x ∧ x ≤ 126
  · rw [if_neg (show ¬ x < 32 by omega), if_pos (show x ≤ 126 by omega), if_pos h1, if_neg (show ¬ (1 : Int) = 0 by decide)]
    by_cases h2 : μ 17 0 = 60
    · refine OK2.no (z := 3) (w := 2) (v := 0) I ?_ ?_ (by decide) (by decide)
      · rw [if_neg (by omega)]
      · rw [if_pos h2, bl_eq, upm_same, if_neg (by decide)]
    · obtain ⟨l, hl⟩ := Int.eq_ofNat_of_zero_le hsl.2.1
      have hcl : f_X9_append σ 386 x = some (upm (upm σ 387 l x) 386 1 (μ 17 0 + 1), μ 17 0 + 1) := by
        unfold f_X9_append
        rw [hsl.1, if_neg (by omega), if_pos (by omega), bl_eq, upm_role (show 386 ≠ 386 + 1 by decide), hsl.1, if_pos (by unfold rng; omega), bl_eq, upm_same, hl, Int.toNat_natCast]
      have hml : (bl (upm μ 11 0 0) fun s5 => (if (s5 11 0) ≤ 0 then if 0 ≤ (s5 17 0) ∧ (s5 17 0) < 60 then bl (upm s5 8 (s5 17 0).toNat x) fun s10 => if rng ((s10 17 0) + 1) then bl (upm s10 17 0 ((s10 17 0) + 1)) fun s13 => some (s13, (s13 17 0)) else none else none else some (s5, 0))) = some (upm (upm (upm μ 11 0 0) 8 l x) 17 0 (μ 17 0 + 1), μ 17 0 + 1) := by
        rw [bl_eq, upm_same, if_pos (by decide), upm_role (show 17 ≠ 11 by decide), if_pos (by omega), bl_eq, upm_role (show 17 ≠ 8 by decide), upm_role (show 17 ≠ 11 by decide), if_pos (by unfold rng; omega), bl_eq, upm_same, hl, Int.toNat_natCast]
      refine ⟨upm (upm σ 387 l x) 386 1 (μ 17 0 + 1), 0, μ 17 0 + 1, upm (upm (upm μ 11 0 0) 8 l x) 17 0 (μ 17 0 + 1), μ 17 0 + 1, ?_, by rw [if_neg h2, hml], Or.inl ⟨rfl, ?_, rfl⟩, ?_⟩
      · rw [if_pos (by omega), hcl, Option.bind_some]
      · rw [upm_role (by decide), upm_role (by decide), upm_same]
      · have os : ∀ r, r ≠ 386 → r ≠ 387 → upm (upm σ 387 l x) 386 1 (μ 17 0 + 1) r = σ r := fun r h3 h4 => by rw [upm_role h3, upm_role h4]
        have om : ∀ r, r ≠ 8 → r ≠ 11 → r ≠ 17 → upm (upm (upm μ 11 0 0) 8 l x) 17 0 (μ 17 0 + 1) r = μ r := fun r h3 h4 h5 => by rw [upm_role h5, upm_role h3, upm_role h4]
        have eh : ∀ d, hblk (upm (upm (upm μ 11 0 0) 8 l x) 17 0 (μ 17 0 + 1)) d = hblk μ d := fun d => by unfold hblk; rw [om 4 (by decide) (by decide) (by decide)]
        have nrs : ∀ b g, isNB b → NR b σ g → GI K g → NR b (upm (upm σ 387 l x) 386 1 (μ 17 0 + 1)) g := fun b g hb h1 h2 => h1.same (I.rw b hb) h2.tk.2 h2.ln.2 (fun r r1 r2 => by have := isNB_rng hb; exact os r (by omega) (by omega))
        refine INV.mk ?_ ?_ I.kb (I.rw.same (fun b hb => by have := isNB_rng hb; exact os _ (by omega) (by omega))) ?_ ?_ ?_ ?_ ?_ ?_ ?_ ?_ ?_ ?_
        · rw [om 1 (by decide) (by decide) (by decide)]; exact nrs _ _ (Or.inl rfl) I.nr I.gi
        · rw [om 1 (by decide) (by decide) (by decide)]; exact I.gi
        · rw [os 100 (by decide) (by decide)]; exact I.hn
        · rw [os 100 (by decide) (by decide), om 12 (by decide) (by decide) (by decide)]; exact I.hc
        · intro d hd
          rw [om 12 (by decide) (by decide) (by decide)] at hd ⊢
          rw [os 100 (by decide) (by decide), eh]
          obtain ⟨o1, o2⟩ := I.hi d hd
          exact ⟨nrs _ _ (isNB_hb _ _ _) o1 o2, o2⟩
        · rw [os 0 (by decide) (by decide), om 15 (by decide) (by decide) (by decide)]; exact I.sv
        · intro hh
          rw [om 15 (by decide) (by decide) (by decide)] at hh
          rw [om 3 (by decide) (by decide) (by decide)]
          obtain ⟨o1, o2⟩ := I.sn hh
          exact ⟨nrs _ _ (Or.inr (Or.inr (Or.inl rfl))) o1 o2, o2⟩
        · rw [upm_same, upm_same]; omega
        · intro i hi
          rw [upm_same] at hi
          have e1 : upm (upm σ 387 l x) 386 1 (μ 17 0 + 1) 387 = upm σ 387 l x 387 := upm_role (by decide)
          have e2 : upm (upm (upm μ 11 0 0) 8 l x) 17 0 (μ 17 0 + 1) 8 = upm (upm μ 11 0 0) 8 l x 8 := upm_role (by decide)
          rw [e1, e2]
          by_cases e : i = l
          · subst e; rw [upm_same, upm_same]; exact ⟨rfl, h1⟩
          · rw [upm_cell e, upm_cell e, upm_role (show 8 ≠ 11 by decide)]; exact I.sg i (by omega)
        · rw [os 0 (by decide) (by decide), om 13 (by decide) (by decide) (by decide)]; exact I.er
        · rw [os 0 (by decide) (by decide), om 14 (by decide) (by decide) (by decide)]; exact I.fl
        · obtain ⟨u, h3, h4⟩ := I.ot
          refine ⟨u, ?_, ?_⟩
          · unfold BI at h3 ⊢
            rw [os 390 (by decide) (by decide), os 391 (by decide) (by decide)]; exact h3
          · rw [om 16 (by decide) (by decide) (by decide), om 7 (by decide) (by decide) (by decide)]; exact h4
  · rw [if_neg h1, if_pos rfl]
    refine OK2.no (z := 2) (w := 1) (v := 0) I ?_ ?_ (by decide) (by decide)
    · by_cases h2 : x < 32
      · rw [if_pos h2]
      · rw [if_neg h2, if_neg (by omega)]
    · rw [bl_eq, upm_same, if_neg (by decide)]
theorem op_outputAt (I : INV K σ μ) (x : Int) : OK2 (f_X12_outputAt σ x) (f_X13_outputAt μ x) K [(1, 1)] := by
  obtain ⟨t, hB, h1, h2, h3⟩ := I.ot
  obtain ⟨b1, b2, b3, b4, b5, b6, b7⟩ := hB
  unfold f_X12_outputAt f_X13_outputAt
  rw [if_pos (by omega), h1, if_pos (show rng ((t.length : Int) - 1) by unfold rng; omega), m_in, Option.bind_some, b2]
  by_cases q : 0 ≤ x ∧ x < (t.length : Int)
  · obtain ⟨j, rfl⟩ := Int.eq_ofNat_of_zero_le q.1
    have hj : j < t.length := by omega
    have r6 := b6 j
    refine OK2.yes (r := σ 391 j) I ?_ ?_
    · rw [if_neg (by omega), if_pos q.2, Int.toNat_natCast, if_pos r6]
    · rw [if_pos (show 0 ≤ (j : Int) ∧ (j : Int) ≤ (t.length : Int) - 1 by omega), ck1, Option.bind_some]
      dsimp only
      have e7 : upm μ 11 0 0 7 j = σ 391 j := by rw [upm_role (by decide), h3 j hj, ← b7 j hj]
      rw [if_pos (by decide), if_pos (by omega)]
      simp only [Int.toNat_natCast, e7]
      rw [if_pos (by omega)]
  · refine OK2.no (z := 1) (w := 1) (v := 32) I ?_ ?_ (by decide) (by decide)
    · by_cases q2 : x < 0
      · rw [if_pos q2]
      · rw [if_neg q2, if_neg (by omega)]
    · rw [if_neg (show ¬ (0 ≤ x ∧ x ≤ (t.length : Int) - 1) by omega), ck0, Option.bind_some]; rfl
end US
