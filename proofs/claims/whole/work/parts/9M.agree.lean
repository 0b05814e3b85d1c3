/-! agreement of class and model, part 9M -/
/-! the script's commands, one by one -/
def vals (σ : Sm) (i v1 v2 v3 v4 k : Int) : Prop := f_X9_valueOf σ 386 i 0 = some v1 ∧ f_X9_valueOf σ 386 i 1 = some v2 ∧ f_X9_valueOf σ 386 i 2 = some v3 ∧ f_X9_valueOf σ 386 i 3 = some v4 ∧ f_X9_commandOf σ 386 i = some k
def CK (N : Nat) (σ μ : Sm) (K i k w1 w2 w3 w4 : Int) : Prop := (∃ z, z ≠ 0 ∧ f_X12_commandFault N σ i = some z ∧ f_X13_cannot N μ k w1 w2 w3 w4 = some (μ, 1)) ∨ (f_X12_commandFault N σ i = some 0 ∧ ∃ σ' μ', f_X12_carryOut N σ i = some σ' ∧ f_X13_cannot N μ k w1 w2 w3 w4 = some (μ', 0) ∧ NR 1 σ' (μ' 1) ∧ GI (K + 1) (μ' 1) ∧ offN 1 σ σ' ∧ RW 1 σ' ∧ ∀ r, r ≠ 1 → μ' r = μ r)
section CM
variable {σ μ : Sm} {g : Ga} {K i v1 v2 v3 v4 w1 w2 w3 w4 : Int} {N : Nat}
theorem CK.of {k : Int} {fz : Option Int} {z : Int} {co : Option Sm} {mc : Option (Sm × Int)} (hf : f_X12_commandFault N σ i = fz) (hc : f_X12_carryOut N σ i = co) (hm : f_X13_cannot N μ k w1 w2 w3 w4 = mc) (hz : fz = some z) (h1 : z ≠ 0 → mc = some (μ, 1)) (h2 : z = 0 → ∃ σ' μ' g', co = some σ' ∧ mc = some (μ', 0) ∧ MS μ μ' g' ∧ NR 1 σ' g' ∧ GI (K + 1) g' ∧ offN 1 σ σ' ∧ RW 1 σ') : CK N σ μ K i k w1 w2 w3 w4 := by
  by_cases e : z = 0
  · obtain ⟨σ', μ', g', a1, a2, a3, a4, a5, a6, a7⟩ := h2 e
    refine Or.inr ⟨by rw [hf, hz, e], σ', μ', by rw [hc, a1], by rw [hm, a2], ?_, ?_, a6, a7, a3.1⟩
    · rw [a3.2]; exact a4
    · rw [a3.2]; exact a5
  · exact Or.inl ⟨z, e, by rw [hf, hz], by rw [hm, h1 e]⟩
theorem cf_e (V : vals σ i v1 v2 v3 v4 w1) : ∀ (F : Int → Int → Int → Int → Int → Option Sm), ((f_X9_valueOf σ 386 i 0).bind fun v1 => (f_X9_valueOf σ 386 i 1).bind fun v2 => (f_X9_valueOf σ 386 i 2).bind fun v3 => (f_X9_valueOf σ 386 i 3).bind fun v4 => (f_X9_commandOf σ 386 i).bind fun v5 => F v1 v2 v3 v4 v5) = F v1 v2 v3 v4 w1 := fun F => by
  rw [V.1, Option.bind_some, V.2.1, Option.bind_some, V.2.2.1, Option.bind_some, V.2.2.2.1, Option.bind_some, V.2.2.2.2, Option.bind_some]
theorem cf_i (V : vals σ i v1 v2 v3 v4 w1) : ∀ (F : Int → Int → Int → Int → Int → Option Int), ((f_X9_valueOf σ 386 i 0).bind fun v1 => (f_X9_valueOf σ 386 i 1).bind fun v2 => (f_X9_valueOf σ 386 i 2).bind fun v3 => (f_X9_valueOf σ 386 i 3).bind fun v4 => (f_X9_commandOf σ 386 i).bind fun v5 => F v1 v2 v3 v4 v5) = F v1 v2 v3 v4 w1 := fun F => by
  rw [V.1, Option.bind_some, V.2.1, Option.bind_some, V.2.2.1, Option.bind_some, V.2.2.2.1, Option.bind_some, V.2.2.2.2, Option.bind_some]
theorem ck0_stop (n : NR 1 σ (μ 1)) (G : GI K (μ 1)) (R : RW 1 σ) (V : vals σ i v1 v2 v3 v4 0) : CK N σ μ K i 0 v1 w2 w3 w4 := by
  have hz : (zAS (μ 1) v1 = 0 ∧ (0 ≤ v1 ∧ v1 ≤ 9) ∧ μ 1 0 < 10) ∨ zAS (μ 1) v1 = 2 ∨ zAS (μ 1) v1 = 3 := by
    unfold zAS
    repeat' split
    all_goals first | omega | (left; refine ⟨rfl, ?_⟩; omega)
  refine CK.of (fz := (f_X8_stopFault σ 1 v1).bind fun v7 => some v7) (co := (f_X8_putStop σ 1 v1).bind fun v7 => some v7.1) (mc := (f_X13_cannotAddStop μ v1).bind fun v2 => (if v2 ≤ 0 then (f_X13_addsStop μ v1).bind fun v4 => some (v4.1, 0) else some (μ, 1))) (z := zAS (μ 1) v1) ((cf_i V _).trans rfl) ((cf_e V _).trans rfl) rfl (by rw [c_stopF n]; rfl) (fun h => ?_) (fun h => ?_)
  · rw [m_cAS G, Option.bind_some]
    rcases hz with h1 | h1 | h1
    · exact absurd h1.1 h
    · rw [h1]; rfl
    · rw [h1]; rfl
  · have h3 : (0 ≤ v1 ∧ v1 ≤ 9) ∧ μ 1 0 < 10 := by omega
    obtain ⟨σ', o1, o2, o3, o4⟩ := c_putStop n G R v1 h3.2
    obtain ⟨μ', p1, p2⟩ := m_addsStop G v1 h3.2
    refine ⟨σ', μ', _, by rw [o1]; rfl, ?_, p2, o2, (gAS_ok G h3.1 h3.2).mono (by omega), o3, R.same o4⟩
    rw [m_cAS G, Option.bind_some, h, if_pos (by decide), p1]; rfl
theorem ck1_walk (n : NR 1 σ (μ 1)) (G : GI K (μ 1)) (R : RW 1 σ) (hK : K ≤ 1000000) (V : vals σ i v1 v2 v3 v4 1) : CK N σ μ K i 1 v1 v2 v3 w4 := by
  have hz : (zAW (μ 1) v1 v2 v3 = 0 ∧ (0 ≤ v1 ∧ v1 < μ 1 0) ∧ (0 ≤ v2 ∧ v2 < μ 1 0) ∧ (1 ≤ v3 ∧ v3 ≤ 30) ∧ μ 1 1 < 15) ∨ zAW (μ 1) v1 v2 v3 = 1 ∨ zAW (μ 1) v1 v2 v3 = 2 ∨ zAW (μ 1) v1 v2 v3 = 3 := by
    unfold zAW
    repeat' split
    all_goals first | omega | (left; refine ⟨rfl, ?_⟩; omega)
  refine CK.of (fz := (f_X8_walkFault σ 1 v1 v2 v3).bind fun v7 => some v7) (co := (f_X8_putWalk σ 1 v1 v2 v3).bind fun v7 => some v7.1) (mc := (f_X13_cannotWalk μ v1 v2 v3).bind fun v6 => (if v6 ≤ 0 then (f_X13_addsWalk μ v1 v2 v3).bind fun v8 => some (v8.1, 0) else some (μ, 1))) (z := zAW (μ 1) v1 v2 v3) ((cf_i V _).trans rfl) ((cf_e V _).trans rfl) rfl (by rw [c_walkF n G]; rfl) (fun h => ?_) (fun h => ?_)
  · rw [m_cAW G, Option.bind_some]
    rcases hz with h1 | h1 | h1 | h1
    · exact absurd h1.1 h
    all_goals rw [h1]; rfl
  · have h3 : (0 ≤ v1 ∧ v1 < μ 1 0) ∧ (0 ≤ v2 ∧ v2 < μ 1 0) ∧ (1 ≤ v3 ∧ v3 ≤ 30) ∧ μ 1 1 < 15 := by omega
    rw [m_cAW G, Option.bind_some, h]
    obtain ⟨a, rfl, ha, -⟩ := isSt_cases G h3.1
    obtain ⟨c, rfl, hc, -⟩ := isSt_cases G h3.2.1
    obtain ⟨σ', o1, o2, o3, o4⟩ := c_putWalk n G R ha hc v3 hK
    obtain ⟨μ', p1, p2⟩ := m_addsWalk G ha hc v3 hK
    refine ⟨σ', μ', _, by rw [o1]; rfl, ?_, p2, o2, (gAW_ok G ha hc h3.2.2.1 h3.2.2.2).mono (by omega), o3, R.same o4⟩
    rw [if_pos (by decide), p1]; rfl
theorem ck2_line (n : NR 1 σ (μ 1)) (G : GI K (μ 1)) (R : RW 1 σ) (V : vals σ i v1 v2 v3 v4 2) : CK N σ μ K i 2 v1 v2 v3 v4 := by
  have hz : (zAL (μ 1) v1 v2 v3 v4 = 0 ∧ ((1 ≤ v1 ∧ v1 ≤ 60) ∧ (0 ≤ v2 ∧ v2 ≤ 59) ∧ (1 ≤ v3 ∧ v3 ≤ 9) ∧ 1 ≤ v4 ∧ v4 ≤ 20) ∧ μ 1 2 < 5) ∨ zAL (μ 1) v1 v2 v3 v4 = 2 ∨ zAL (μ 1) v1 v2 v3 v4 = 3 := by
    unfold zAL
    repeat' split
    all_goals first | omega | (left; refine ⟨rfl, ?_⟩; omega)
  refine CK.of (fz := (f_X8_lineFault σ 1 v1 v2 v3 v4).bind fun v7 => some v7) (co := (f_X8_putLine σ 1 v1 v2 v3 v4).bind fun v7 => some v7.1) (mc := (f_X13_cannotAddLine μ v1 v2 v3 v4).bind fun v10 => (if v10 ≤ 0 then (f_X13_addsLine μ v1 v2 v3 v4).bind fun v12 => some (v12.1, 0) else some (μ, 1))) (z := zAL (μ 1) v1 v2 v3 v4) ((cf_i V _).trans rfl) ((cf_e V _).trans rfl) rfl (by rw [c_lineF n]; rfl) (fun h => ?_) (fun h => ?_)
  · rw [m_cAL G, Option.bind_some]
    rcases hz with h1 | h1 | h1
    · exact absurd h1.1 h
    all_goals rw [h1]; rfl
  · have h3 : ((1 ≤ v1 ∧ v1 ≤ 60) ∧ (0 ≤ v2 ∧ v2 ≤ 59) ∧ (1 ≤ v3 ∧ v3 ≤ 9) ∧ 1 ≤ v4 ∧ v4 ≤ 20) ∧ μ 1 2 < 5 := by omega
    rw [m_cAL G, Option.bind_some, h]
    obtain ⟨σ', o1, o2, o3, o4⟩ := c_putLine n G R v1 v2 v3 v4 h3.2
    obtain ⟨μ', p1, p2⟩ := m_addsLine G v1 v2 v3 v4 h3.2
    refine ⟨σ', μ', _, by rw [o1]; rfl, ?_, p2, o2, (gAL_ok G h3.1.1 h3.1.2.1 h3.1.2.2.1 h3.1.2.2.2 h3.2).mono (by omega), o3, R.same o4⟩
    rw [if_pos (by decide), p1]; rfl
theorem ck3_add (n : NR 1 σ (μ 1)) (G : GI K (μ 1)) (R : RW 1 σ) (hN : 16 < N) (V : vals σ i v1 v2 v3 v4 3) : CK N σ μ K i 3 v1 v2 w3 w4 := by
  have hz : (zEx (μ 1) v1 v2 = 0 ∧ (0 ≤ v1 ∧ v1 < μ 1 2) ∧ (0 ≤ v2 ∧ v2 < μ 1 0) ∧ gl (μ 1) v1.toNat 5 < 6 ∧ tof (μ 1) v1 = 0 ∧ pla (μ 1) v1.toNat v2 = -1) ∨ zEx (μ 1) v1 v2 = 1 ∨ zEx (μ 1) v1 v2 = 3 ∨ zEx (μ 1) v1 v2 = 5 := by
    unfold zEx
    repeat' split
    all_goals first | omega | (left; refine ⟨rfl, ?_⟩; omega)
  refine CK.of (fz := (f_X8_extensionFault N σ 1 v1 v2).bind fun v7 => some v7) (co := if 0 ≤ v1 ∧ v1 < 5 then (f_X7_append σ (1 + 23 + 2 * v1.toNat) v2).bind fun v15 => some v15.1 else none) (mc := (f_X13_cannotExtend N μ v1 v2).bind fun v14 => (if v14 ≤ 0 then (f_X13_extend μ v1 v2).bind fun v16 => some (v16.1, 0) else some (μ, 1))) (z := zEx (μ 1) v1 v2) ((cf_i V _).trans rfl) ((cf_e V _).trans rfl) rfl (by rw [c_extF n G _ _ hN]; rfl) (fun h => ?_) (fun h => ?_)
  · rw [m_cEx G _ _ hN, Option.bind_some]
    rcases hz with h1 | h1 | h1 | h1
    · exact absurd h1.1 h
    all_goals rw [h1]; rfl
  · have h3 : (0 ≤ v1 ∧ v1 < μ 1 2) ∧ (0 ≤ v2 ∧ v2 < μ 1 0) ∧ gl (μ 1) v1.toNat 5 < 6 ∧ tof (μ 1) v1 = 0 ∧ pla (μ 1) v1.toNat v2 = -1 := by omega
    rw [m_cEx G _ _ hN, Option.bind_some, h]
    obtain ⟨c, rfl, hc5, hc⟩ := isLn_cases G h3.1
    obtain ⟨-, h4, h5, h6, h7⟩ := h3
    obtain ⟨σ', o1, o2, o3, o4⟩ := c_append n G R hc v2 h5
    obtain ⟨μ', p1, p2⟩ := m_extend G hc5 v2 h5
    refine ⟨σ', μ', _, by rw [if_pos (by omega), Int.toNat_natCast, o1]; rfl, ?_, p2, o2, (gEx_ok G hc h4 h5 h6 h7).mono (by omega), o3, R.same o4⟩
    rw [if_pos (by decide), p1]; rfl
theorem ck4_cut (n : NR 1 σ (μ 1)) (G : GI K (μ 1)) (R : RW 1 σ) (hN : 16 < N) (V : vals σ i v1 v2 v3 v4 4) : CK N σ μ K i 4 v1 w2 w3 w4 := by
  have hz : (zSh (μ 1) v1 = 0 ∧ (0 ≤ v1 ∧ v1 < μ 1 2) ∧ gl (μ 1) v1.toNat 5 ≠ 0 ∧ tof (μ 1) v1 = 0) ∨ zSh (μ 1) v1 = 1 ∨ zSh (μ 1) v1 = 4 ∨ zSh (μ 1) v1 = 3 := by
    unfold zSh
    repeat' split
    all_goals first | omega | (left; refine ⟨rfl, ?_⟩; omega)
  refine CK.of (fz := (f_X8_shorteningFault N σ 1 v1).bind fun v7 => some v7) (co := if 0 ≤ v1 ∧ v1 < 5 then (f_X7_dropLast σ (1 + 23 + 2 * v1.toNat)).bind fun v15 => some v15.1 else none) (mc := (f_X13_cannotShorten N μ v1).bind fun v14 => (if v14 ≤ 0 then (f_X13_shorten μ v1).bind fun v16 => some (v16.1, 0) else some (μ, 1))) (z := zSh (μ 1) v1) ((cf_i V _).trans rfl) ((cf_e V _).trans rfl) rfl (by rw [c_shF n G _ hN]; rfl) (fun h => ?_) (fun h => ?_)
  · rw [m_cSh G _ hN, Option.bind_some]
    rcases hz with h1 | h1 | h1 | h1
    · exact absurd h1.1 h
    all_goals rw [h1]; rfl
  · have h3 : (0 ≤ v1 ∧ v1 < μ 1 2) ∧ gl (μ 1) v1.toNat 5 ≠ 0 ∧ tof (μ 1) v1 = 0 := by omega
    rw [m_cSh G _ hN, Option.bind_some, h]
    obtain ⟨c, rfl, hc5, hc⟩ := isLn_cases G h3.1
    obtain ⟨-, h5, h6⟩ := h3
    obtain ⟨σ', o1, o2, o3, o4⟩ := c_dropLast n G R hc h5
    obtain ⟨μ', p1, p2⟩ := m_shorten G hc5 h5
    refine ⟨σ', μ', _, by rw [if_pos (by omega), Int.toNat_natCast, o1]; rfl, ?_, p2, o2, (gSh_ok G hc h5 h6).mono (by omega), o3, R.same o4⟩
    rw [if_pos (by decide), p1]; rfl
theorem ck5_rain (n : NR 1 σ (μ 1)) (G : GI K (μ 1)) (R : RW 1 σ) {k v : Int} (hk : (k = 5 ∧ v = 1) ∨ (k = 6 ∧ v = 0)) (V : vals σ i v1 v2 v3 v4 k) : CK N σ μ K i k w1 w2 w3 w4 := by
  have hv : bit v := by unfold bit; omega
  obtain ⟨n1, n2, n3⟩ := c_rain n G R v
  obtain ⟨μ', p1, p2⟩ := m_flag (μ := μ) (i := 6) (by decide) hv
  have gk := (gRain_ok G hv).mono (show K ≤ K + 1 by omega)
  rcases hk with ⟨rfl, rfl⟩ | ⟨rfl, rfl⟩
  · exact CK.of (fz := some 0) (co := some (upm σ 1 1 1)) (mc := (f_X13_flag μ 6 1).bind fun v24 => some (v24.1, 0)) (z := 0) ((cf_i V _).trans rfl) ((cf_e V _).trans rfl) rfl rfl (fun h => absurd rfl h) (fun _ => ⟨_, μ', _, rfl, by rw [show f_X13_flag μ 6 1 = _ from p1]; rfl, p2, n1, gk, n2, R.same n3⟩)
  · exact CK.of (fz := some 0) (co := some (upm σ 1 1 0)) (mc := (f_X13_flag μ 6 0).bind fun v24 => some (v24.1, 0)) (z := 0) ((cf_i V _).trans rfl) ((cf_e V _).trans rfl) rfl rfl (fun h => absurd rfl h) (fun _ => ⟨_, μ', _, rfl, by rw [show f_X13_flag μ 6 0 = _ from p1]; rfl, p2, n1, gk, n2, R.same n3⟩)
theorem ck7_close (n : NR 1 σ (μ 1)) (G : GI K (μ 1)) (R : RW 1 σ) {k v : Int} (hk : (k = 7 ∧ v = 1) ∨ (k = 8 ∧ v = 0)) (V : vals σ i v1 v2 v3 v4 k) : CK N σ μ K i k v1 w2 w3 w4 := by
  have hv : bit v := by unfold bit; omega
  have key : CK N σ μ K i k v1 w2 w3 w4 := by
    refine CK.of (fz := (f_X8_stopIndexFault σ 1 v1).bind fun v17 => some v17) (co := if 0 ≤ v1 ∧ v1 < 10 then some (upm σ 3 v1.toNat v) else none) (mc := (f_X13_isStop μ v1).bind fun v30 => (if v30 = 0 then some (μ, 1) else if rng ((12 + (2 * v1)) + 1) then (f_X13_flag μ ((12 + (2 * v1)) + 1) v).bind fun v36 => some (v36.1, 0) else none)) (z := zSt (μ 1) v1) ?_ ?_ ?_ (by rw [c_stopIx n]; rfl) (fun h => ?_) (fun h => ?_)
    · rcases hk with ⟨rfl, rfl⟩ | ⟨rfl, rfl⟩
      · exact (cf_i V _).trans rfl
      · exact (cf_i V _).trans rfl
    · rcases hk with ⟨rfl, rfl⟩ | ⟨rfl, rfl⟩
      · exact (cf_e V _).trans rfl
      · exact (cf_e V _).trans rfl
    · rcases hk with ⟨rfl, rfl⟩ | ⟨rfl, rfl⟩
      · rfl
      · rfl
    · have hn : ¬ (0 ≤ v1 ∧ v1 < μ 1 0) := fun h2 => h (by unfold zSt; rw [if_pos h2])
      rw [m_isStop G, Option.bind_some, if_neg hn, if_pos rfl]
    · have h1 : 0 ≤ v1 ∧ v1 < μ 1 0 := by
        unfold zSt at h
        split at h
        · assumption
        · cases h
      obtain ⟨j, rfl, hj10, hj⟩ := isSt_cases G h1
      obtain ⟨n1, n2, n3⟩ := c_close n G R hj v
      obtain ⟨μ', p1, p2⟩ := m_flag (μ := μ) (i := 13 + 2 * j) (by omega) hv
      refine ⟨_, μ', _, by rw [if_pos (by omega), Int.toNat_natCast], ?_, p2, n1, (gCl_ok G hj hv).mono (by omega), n2, R.same n3⟩
      rw [m_isStop G, Option.bind_some, if_pos h1, if_neg (by decide), if_pos (by unfold rng; omega), show 12 + 2 * (j : Int) + 1 = ((13 + 2 * j : Nat) : Int) by omega, p1]; rfl
  exact key
theorem ck9_halt (n : NR 1 σ (μ 1)) (G : GI K (μ 1)) (R : RW 1 σ) {k v : Int} (hk : (k = 9 ∧ v = 1) ∨ (k = 10 ∧ v = 0)) (V : vals σ i v1 v2 v3 v4 k) : CK N σ μ K i k v1 w2 w3 w4 := by
  have hv : bit v := by unfold bit; omega
  refine CK.of (fz := (f_X8_lineIndexFault σ 1 v1).bind fun v17 => some v17) (co := if 0 ≤ v1 ∧ v1 < 5 then some (upm σ (1 + 23 + 2 * v1.toNat) 5 v) else none) (mc := (f_X13_isLine μ v1).bind fun v30 => (if v30 = 0 then some (μ, 1) else if rng ((132 + (16 * v1)) + 6) then (f_X13_flag μ ((132 + (16 * v1)) + 6) v).bind fun v36 => some (v36.1, 0) else none)) (z := zLn (μ 1) v1) ?_ ?_ ?_ (by rw [c_lineIx n]; rfl) (fun h => ?_) (fun h => ?_)
  · rcases hk with ⟨rfl, rfl⟩ | ⟨rfl, rfl⟩
    · exact (cf_i V _).trans rfl
    · exact (cf_i V _).trans rfl
  · rcases hk with ⟨rfl, rfl⟩ | ⟨rfl, rfl⟩
    · exact (cf_e V _).trans rfl
    · exact (cf_e V _).trans rfl
  · rcases hk with ⟨rfl, rfl⟩ | ⟨rfl, rfl⟩
    · rfl
    · rfl
  · have hn : ¬ (0 ≤ v1 ∧ v1 < μ 1 2) := fun h2 => h (by unfold zLn; rw [if_pos h2])
    rw [m_isLine G, Option.bind_some, if_neg hn, if_pos rfl]
  · have h1 : 0 ≤ v1 ∧ v1 < μ 1 2 := by
      unfold zLn at h
      split at h
      · assumption
      · cases h
    obtain ⟨c, rfl, hc5, hc⟩ := isLn_cases G h1
    obtain ⟨n1, n2, n3⟩ := c_lineCell n G R hc 6 v (Or.inr rfl)
    rw [if_neg (by decide)] at n1 n2 n3
    obtain ⟨μ', p1, p2⟩ := m_flag (μ := μ) (i := 132 + 16 * c + 6) (by omega) hv
    refine ⟨_, μ', _, by rw [if_pos (by omega), Int.toNat_natCast], ?_, p2, n1, (gLn_ok G hc (Or.inr ⟨rfl, hv⟩)).mono (by omega), n2, R.same n3⟩
    rw [m_isLine G, Option.bind_some, if_pos h1, if_neg (by decide), if_pos (by unfold rng; omega), show 132 + 16 * (c : Int) + 6 = ((132 + 16 * c + 6 : Nat) : Int) by omega, p1]; rfl
theorem ck11_sell (n : NR 1 σ (μ 1)) (G : GI K (μ 1)) (R : RW 1 σ) (hK : K ≤ 1000000) (hN : 16 < N) (V : vals σ i v1 v2 v3 v4 11) : CK N σ μ K i 11 v1 v2 v3 v4 := by
  have hz := zSa_cases (μ 1) v1 v2 v3 v4
  refine CK.of (fz := (f_X8_saleFault N σ 1 v1 v2 v3 v4).bind fun v7 => some v7) (co := (f_X8_putTicket σ 1 v1 v2 v3 v4).bind fun v35 => some v35.1) (mc := (f_X13_cannotSell N μ v1 v2 v3 v4).bind fun v62 => (if v62 ≤ 0 then (f_X13_sells μ v1 v2 v3 v4).bind fun v64 => some (v64.1, 0) else some (μ, 1))) (z := zSa (μ 1) v1 v2 v3 v4) ((cf_i V _).trans rfl) ((cf_e V _).trans rfl) rfl (by rw [c_saF n G _ _ _ _ hN]; rfl) (fun h => ?_) (fun h => ?_)
  · rw [m_cSa G _ _ _ _ hN, Option.bind_some]
    rcases hz with h1 | h1 | h1 | h1 | h1
    · exact absurd h1.1 h
    all_goals rw [h1]; rfl
  · obtain ⟨h1, h2, h3, h4, h5, h6⟩ : (0 ≤ v1 ∧ v1 < μ 1 2) ∧ (0 ≤ v3 ∧ v3 < v4 ∧ v4 ≤ gl (μ 1) v1.toNat 5) ∧ (0 ≤ v2 ∧ v2 ≤ 99) ∧ run (μ 1) v1.toNat = true ∧ μ 1 3 < 16 ∧ 0 < fre (μ 1) v1.toNat v2 v3 v4 := by rcases hz with h1 | h1 | h1 | h1 | h1; exact h1.2; all_goals omega
    rw [m_cSa G _ _ _ _ hN, Option.bind_some, h]
    obtain ⟨c, rfl, hc5, hc⟩ := isLn_cases G h1
    have sz := (G.li c hc5).sz
    have h22 : v4 ≤ 6 := by have := h2.2.2; rw [Int.toNat_natCast] at this; omega
    obtain ⟨σ', o1, o2, o3, o4⟩ := c_putTicket n G R (c := c) (t := v2) h5 (a := v3) (e := v4) ⟨h2.1, h2.2.1, h22⟩ hK
    obtain ⟨μ', p1, p2⟩ := m_sells G (c := c) (t := v2) (a := v3) (e := v4) h5 ⟨h2.1, h2.2.1, h22⟩ hK
    refine ⟨σ', μ', _, by rw [o1]; rfl, ?_, p2, o2, gSl_ok G hc h3 h2 h5 h6, o3, R.same o4⟩
    rw [if_pos (by decide), p1]; rfl
theorem ck12_refund (n : NR 1 σ (μ 1)) (G : GI K (μ 1)) (R : RW 1 σ) (hK : 0 ≤ K ∧ K ≤ 1000000) (hN : 340 < N) (V : vals σ i v1 v2 v3 v4 12) : CK N σ μ K i 12 v1 w2 w3 w4 := by
  have e1 : f_X11_placeOfId N σ 6 v1 = some (plt (μ 1) v1) := c_placeOfId n G v1 (by omega)
  have e2 := m_ticket G v1 (N := N) (by omega)
  refine CK.of (fz := (f_X11_placeOfId N σ 6 v1).bind fun v27 => (if v27 = (-1) then some 4 else some 0)) (co := (f_X11_placeOfId N σ 6 v1).bind fun v37 => (f_X11_giveBack N σ 6 v37).bind fun v38 => some v38.1) (mc := (f_X13_ticket N μ v1).bind fun v66 => (if 0 ≤ v66 then (f_X13_refunds N μ v1).bind fun v68 => some (v68.1, 0) else some (μ, 1))) (z := if plt (μ 1) v1 = -1 then 4 else 0) ((cf_i V _).trans rfl) ((cf_e V _).trans rfl) rfl (by rw [e1, Option.bind_some]; split <;> rfl) (fun h => ?_) (fun h => ?_)
  · rw [e2, Option.bind_some]
    rcases plt_cases G v1 with h1 | ⟨p, h1, h3, -⟩
    · rw [h1, if_neg (by decide)]
    · exact absurd (by rw [h1, if_neg (by omega)]) h
  · rcases plt_cases G v1 with h1 | ⟨p, h1, h3, -⟩
    · rw [h1, if_pos rfl] at h; cases h
    · obtain ⟨σ', o1, o2, o3, o4⟩ := c_giveBack (N := N) n G R h3 (by omega) hK
      obtain ⟨μ', p1, p2⟩ := m_refunds (N := N) (p := p) G (i := v1) h1 h3 hN hK
      refine ⟨σ', μ', _, by rw [e1, Option.bind_some, h1, show f_X11_giveBack N σ 6 (p : Int) = _ from o1]; rfl, ?_, p2, o2, gRf_ok G h3, o3, o4⟩
      rw [e2, Option.bind_some, h1, if_pos (by omega), p1]; rfl
theorem ck13_wait (n : NR 1 σ (μ 1)) (G : GI K (μ 1)) (R : RW 1 σ) (hK : 0 ≤ K ∧ K ≤ 900000) (hN : 340 < N) (V : vals σ i v1 v2 v3 v4 13) : CK N σ μ K i 13 v1 w2 w3 w4 := by
  refine CK.of (fz := (f_X8_waitFault 1 v1).bind fun v30 => some v30) (co := (f_X8_pass N σ 1 v1).bind fun v40 => some v40.1) (mc := (f_X13_in v1 1 120).bind fun v69 => (if v69 = 0 then some (μ, 1) else (f_X13_advances N μ v1).bind fun v71 => some (v71.1, 0))) (z := zWt v1) ((cf_i V _).trans rfl) ((cf_e V _).trans rfl) rfl (by rw [c_wtF]; rfl) (fun h => ?_) (fun h => ?_)
  · have hn : ¬ (1 ≤ v1 ∧ v1 ≤ 120) := fun h2 => h (by unfold zWt; rw [if_pos h2])
    rw [m_in, Option.bind_some, if_neg hn, if_pos rfl]
  · have h1 : 1 ≤ v1 ∧ v1 ≤ 120 := by
      unfold zWt at h
      split at h
      · assumption
      · cases h
    obtain ⟨σ', μ', u, a1, a2, a3, a4, a5, a6, a7⟩ := adv_ok (N := N) (b := 1) n G R hN hK h1
    refine ⟨σ', μ', μ' 1, by rw [a1]; rfl, ?_, ⟨a7, rfl⟩, a3, a4, a5, a6⟩
    rw [m_in, Option.bind_some, if_pos h1, if_neg (by decide), a2]; rfl
end CM
