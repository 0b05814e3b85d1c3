/-! agreement of class and model, part 83 -/
/-! addStop .. setSuspended -/
section OPS
variable {σ μ : Sm} {g : Ga} {K : Int} {N : Nat}
theorem bg1 : bgn μ 1 = μ 1 := bgn_r (by decide)
theorem bgG (I : INV K σ μ) : GI K (bgn μ 1) := by rw [bg1]; exact I.gi
theorem op_gen {xs : List (Nat × Int)} (I : INV K σ μ) (hK : K + 1 ≤ 80000) (hN : 340 < N) {fz : Option Int} {z : Int} (hfz : fz = some z) (hz : 0 ≤ z ∧ z ≤ 5) {fw : Sm → Option Int} {w : Int} (hfw : fw (bgn μ) = some w) (hw0 : z = 0 → w = 0) (hw1 : z ≠ 0 → 0 < w ∧ (z.toNat, w) ∈ xs) {kc : So Sm → Option (So Sm)} {km : Sm → Option (Sm × Int)} (go : z = 0 → OK2 (kc (σ, 0, 0)) (km (bgn μ)) (K + 1) xs) : OK2 (fz.bind fun v1 => (f_X12_refuse σ v1).bind fun v2 => if v2.2.1 = 0 then kc v2 else some (xw v2)) ((f_X13_begin N μ).bind fun s1 => (fw s1).bind fun v2 => (if v2 ≤ 0 then km s1 else (f_X13_fail s1 v2).bind fun v6 => some (v6.1, v6.2))) (K + 1) xs := by
  by_cases h : z = 0
  · rw [cl_go (by rw [hfz, h]), ml_go hN (by rw [hfw, hw0 h])]; exact go h
  · rw [cl_ref hfz (by omega), ml_ref I hN hfw (hw1 h).1]
    exact OK2.ref I hK rfl rfl (by omega) (hw1 h).2
theorem op_addStop (I : INV K σ μ) (hK : K + 1 ≤ 80000) (hN : 340 < N) (x : Int) : OK2 (f_X12_addStop N σ x) (f_X13_addStop N μ x) (K + 1) [(2, 1), (3, 2)] := by
  have e := m_cAS (bgG I) x
  rw [bg1] at e
  have hz : (zAS (μ 1) x = 0 ∧ (0 ≤ x ∧ x ≤ 9) ∧ μ 1 0 < 10) ∨ zAS (μ 1) x = 2 ∨ zAS (μ 1) x = 3 := by
    unfold zAS
    by_cases h1 : 0 ≤ x ∧ x ≤ 9
    · by_cases h2 : μ 1 0 < 10
      · rw [if_pos h1, if_pos h2]; exact Or.inl ⟨rfl, h1, h2⟩
      · rw [if_pos h1, if_neg h2]; exact Or.inr (Or.inr rfl)
    · rw [if_neg h1]; exact Or.inr (Or.inl rfl)
  unfold f_X12_addStop f_X13_addStop
  refine op_gen (fw := fun s => f_X13_cannotAddStop s x) I hK hN (c_stopF I.nr x) (by omega) e (fun h => by rw [h]; rfl) (fun h => by rcases hz with h1 | h1 | h1; exact absurd h1.1 h; all_goals rw [h1]; decide) (fun h => ?_)
  have h3 : (0 ≤ x ∧ x ≤ 9) ∧ μ 1 0 < 10 := by rcases hz with h1 | h1 | h1; exact h1.2; all_goals omega
  refine OK2.chg (v := μ 1 0) I hK hN ((gAS_ok I.gi h3.1 h3.2).mono (by omega)) rfl rfl (fun σk n1 R => ?_) ?_
  · obtain ⟨σ', o1, o2, o3, o4⟩ := c_putStop n1 I.gi (R 1 (Or.inl rfl)) x h3.2
    exact ⟨σ', o1, o2, o3, (R 1 (Or.inl rfl)).same o4⟩
  · have := m_addsStop (μ := bgn μ) (bgG I) x (by rw [bg1]; exact h3.2)
    rw [bg1] at this; exact this
theorem op_addWalk (I : INV K σ μ) (hK : K + 1 ≤ 80000) (hN : 340 < N) (x y m : Int) : OK2 (f_X12_addWalk N σ x y m) (f_X13_addWalk N μ x y m) (K + 1) [(1, 1), (2, 2), (3, 3)] := by
  have e := m_cAW (bgG I) x y m
  rw [bg1] at e
  have hz : (zAW (μ 1) x y m = 0 ∧ (0 ≤ x ∧ x < μ 1 0) ∧ (0 ≤ y ∧ y < μ 1 0) ∧ (1 ≤ m ∧ m ≤ 30) ∧ μ 1 1 < 15) ∨ zAW (μ 1) x y m = 1 ∨ zAW (μ 1) x y m = 2 ∨ zAW (μ 1) x y m = 3 := by
    unfold zAW
    repeat' split
    all_goals first | omega | (left; refine ⟨rfl, ?_⟩; omega)
  unfold f_X12_addWalk f_X13_addWalk
  refine op_gen (fw := fun s => f_X13_cannotWalk s x y m) I hK hN (c_walkF I.nr I.gi x y m) (by omega) e (fun h => by rw [h]; rfl) (fun h => by rcases hz with h1 | h1 | h1 | h1; exact absurd h1.1 h; all_goals rw [h1]; decide) (fun h => ?_)
  have h3 : (0 ≤ x ∧ x < μ 1 0) ∧ (0 ≤ y ∧ y < μ 1 0) ∧ (1 ≤ m ∧ m ≤ 30) ∧ μ 1 1 < 15 := by rcases hz with h1 | h1 | h1 | h1; exact h1.2; all_goals omega
  obtain ⟨a, rfl, ha, -⟩ := isSt_cases I.gi h3.1
  obtain ⟨c, rfl, hc, -⟩ := isSt_cases I.gi h3.2.1
  refine OK2.chg (v := μ 1 1 + 1) I hK hN ((gAW_ok I.gi ha hc h3.2.2.1 h3.2.2.2).mono (by omega)) rfl rfl (fun σk n1 R => ?_) ?_
  · obtain ⟨σ', o1, o2, o3, o4⟩ := c_putWalk n1 I.gi (R 1 (Or.inl rfl)) ha hc m (by omega)
    exact ⟨σ', o1, o2, o3, (R 1 (Or.inl rfl)).same o4⟩
  · have := m_addsWalk (μ := bgn μ) (bgG I) ha hc m (by omega)
    rw [bg1] at this; exact this
theorem op_removeWalk (I : INV K σ μ) (hK : K + 1 ≤ 80000) (hN : 340 < N) (x y : Int) : OK2 (f_X12_removeWalk N σ x y) (f_X13_removeWalk N μ x y) (K + 1) [(1, 1), (4, 2)] := by
  have e := m_cWd (bgG I) x y
  rw [bg1] at e
  have hz : (zWd (μ 1) x y = 0 ∧ (0 ≤ x ∧ x < μ 1 0) ∧ (0 ≤ y ∧ y < μ 1 0)) ∨ zWd (μ 1) x y = 1 ∨ zWd (μ 1) x y = 4 := by
    unfold zWd
    repeat' split
    all_goals first | omega | (left; refine ⟨rfl, ?_⟩; omega)
  unfold f_X12_removeWalk f_X13_removeWalk
  refine op_gen (fw := fun s => f_X13_noWalk s x y) I hK hN (c_walkedF I.nr I.gi x y) (by omega) e (fun h => by rw [h]; rfl) (fun h => by rcases hz with h1 | h1 | h1; exact absurd h1.1 h; all_goals rw [h1]; decide) (fun h => ?_)
  have h3 : (0 ≤ x ∧ x < μ 1 0) ∧ (0 ≤ y ∧ y < μ 1 0) := by rcases hz with h1 | h1 | h1; exact h1.2; all_goals omega
  obtain ⟨a, rfl, ha, ha2⟩ := isSt_cases I.gi h3.1
  obtain ⟨c, rfl, hc, hc2⟩ := isSt_cases I.gi h3.2
  refine OK2.chg (v := wlki (μ 1) a c) I hK hN (gRW_ok I.gi ha hc) rfl rfl (fun σk n1 R => ?_) ?_
  · obtain ⟨σ', o1, o2, o3, o4⟩ := c_dropWalk n1 I.gi (R 1 (Or.inl rfl)) ha2 hc2 (by omega)
    exact ⟨σ', o1, o2, o3, (R 1 (Or.inl rfl)).same o4⟩
  · have := m_removesWalk (μ := bgn μ) (bgG I) ha hc (by omega)
    rw [bg1] at this; exact this
theorem op_addLine (I : INV K σ μ) (hK : K + 1 ≤ 80000) (hN : 340 < N) (x1 x2 x3 x4 : Int) : OK2 (f_X12_addLine N σ x1 x2 x3 x4) (f_X13_addLine N μ x1 x2 x3 x4) (K + 1) [(2, 1), (3, 2)] := by
  have e := m_cAL (bgG I) x1 x2 x3 x4
  rw [bg1] at e
  have hz : (zAL (μ 1) x1 x2 x3 x4 = 0 ∧ ((1 ≤ x1 ∧ x1 ≤ 60) ∧ (0 ≤ x2 ∧ x2 ≤ 59) ∧ (1 ≤ x3 ∧ x3 ≤ 9) ∧ 1 ≤ x4 ∧ x4 ≤ 20) ∧ μ 1 2 < 5) ∨ zAL (μ 1) x1 x2 x3 x4 = 2 ∨ zAL (μ 1) x1 x2 x3 x4 = 3 := by
    unfold zAL
    repeat' split
    all_goals first | omega | (left; refine ⟨rfl, ?_⟩; omega)
  unfold f_X12_addLine f_X13_addLine
  refine op_gen (fw := fun s => f_X13_cannotAddLine s x1 x2 x3 x4) I hK hN (c_lineF I.nr x1 x2 x3 x4) (by omega) e (fun h => by rw [h]; rfl) (fun h => by rcases hz with h1 | h1 | h1; exact absurd h1.1 h; all_goals rw [h1]; decide) (fun h => ?_)
  have h3 : ((1 ≤ x1 ∧ x1 ≤ 60) ∧ (0 ≤ x2 ∧ x2 ≤ 59) ∧ (1 ≤ x3 ∧ x3 ≤ 9) ∧ 1 ≤ x4 ∧ x4 ≤ 20) ∧ μ 1 2 < 5 := by rcases hz with h1 | h1 | h1; exact h1.2; all_goals omega
  refine OK2.chg (v := μ 1 2) I hK hN ((gAL_ok I.gi h3.1.1 h3.1.2.1 h3.1.2.2.1 h3.1.2.2.2 h3.2).mono (by omega)) rfl rfl (fun σk n1 R => ?_) ?_
  · obtain ⟨σ', o1, o2, o3, o4⟩ := c_putLine n1 I.gi (R 1 (Or.inl rfl)) x1 x2 x3 x4 h3.2
    exact ⟨σ', o1, o2, o3, (R 1 (Or.inl rfl)).same o4⟩
  · have := m_addsLine (μ := bgn μ) (bgG I) x1 x2 x3 x4 (by rw [bg1]; exact h3.2)
    rw [bg1] at this; exact this
theorem op_extendLine (I : INV K σ μ) (hK : K + 1 ≤ 80000) (hN : 340 < N) (x y : Int) : OK2 (f_X12_extendLine N σ x y) (f_X13_extendLine N μ x y) (K + 1) [(1, 1), (3, 2), (5, 3)] := by
  have e := m_cEx (bgG I) x y (N := N) (by omega)
  rw [bg1] at e
  have hz : (zEx (μ 1) x y = 0 ∧ (0 ≤ x ∧ x < μ 1 2) ∧ (0 ≤ y ∧ y < μ 1 0) ∧ gl (μ 1) x.toNat 5 < 6 ∧ tof (μ 1) x = 0 ∧ pla (μ 1) x.toNat y = -1) ∨ zEx (μ 1) x y = 1 ∨ zEx (μ 1) x y = 3 ∨ zEx (μ 1) x y = 5 := by
    unfold zEx
    repeat' split
    all_goals first | omega | (left; refine ⟨rfl, ?_⟩; omega)
  unfold f_X12_extendLine f_X13_extendLine
  refine op_gen (fw := fun s => f_X13_cannotExtend N s x y) I hK hN (c_extF I.nr I.gi x y (by omega)) (by omega) e (fun h => by rw [h]; rfl) (fun h => by rcases hz with h1 | h1 | h1 | h1; exact absurd h1.1 h; all_goals rw [h1]; decide) (fun h => ?_)
  have h3 : (0 ≤ x ∧ x < μ 1 2) ∧ (0 ≤ y ∧ y < μ 1 0) ∧ gl (μ 1) x.toNat 5 < 6 ∧ tof (μ 1) x = 0 ∧ pla (μ 1) x.toNat y = -1 := by rcases hz with h1 | h1 | h1 | h1; exact h1.2; all_goals omega
  obtain ⟨c, rfl, hc5, hc⟩ := isLn_cases I.gi h3.1
  obtain ⟨-, h4, h5, h6, h7⟩ := h3
  refine OK2.chg (v := gl (μ 1) c 5 + 1) (co := fun s3 => f_X7_append s3 (1 + 23 + 2 * c) y) I hK hN ((gEx_ok I.gi hc h4 h5 h6 h7).mono (by omega)) (by simp only [if_pos (show 0 ≤ (c : Int) ∧ (c : Int) < 5 by omega)]; rfl) rfl (fun σk n1 R => ?_) ?_
  · obtain ⟨σ', o1, o2, o3, o4⟩ := c_append n1 I.gi (R 1 (Or.inl rfl)) hc y h5
    exact ⟨σ', o1, o2, o3, (R 1 (Or.inl rfl)).same o4⟩
  · have := m_extend (μ := bgn μ) (bgG I) hc5 y (by rw [bg1]; exact h5)
    rw [bg1] at this; exact this
theorem op_shortenLine (I : INV K σ μ) (hK : K + 1 ≤ 80000) (hN : 340 < N) (x : Int) : OK2 (f_X12_shortenLine N σ x) (f_X13_shortenLine N μ x) (K + 1) [(1, 1), (4, 2), (3, 3)] := by
  have e := m_cSh (bgG I) x (N := N) (by omega)
  rw [bg1] at e
  have hz : (zSh (μ 1) x = 0 ∧ (0 ≤ x ∧ x < μ 1 2) ∧ gl (μ 1) x.toNat 5 ≠ 0 ∧ tof (μ 1) x = 0) ∨ zSh (μ 1) x = 1 ∨ zSh (μ 1) x = 4 ∨ zSh (μ 1) x = 3 := by
    unfold zSh
    repeat' split
    all_goals first | omega | (left; refine ⟨rfl, ?_⟩; omega)
  unfold f_X12_shortenLine f_X13_shortenLine
  refine op_gen (fw := fun s => f_X13_cannotShorten N s x) I hK hN (c_shF I.nr I.gi x (by omega)) (by omega) e (fun h => by rw [h]; rfl) (fun h => by rcases hz with h1 | h1 | h1 | h1; exact absurd h1.1 h; all_goals rw [h1]; decide) (fun h => ?_)
  have h3 : (0 ≤ x ∧ x < μ 1 2) ∧ gl (μ 1) x.toNat 5 ≠ 0 ∧ tof (μ 1) x = 0 := by rcases hz with h1 | h1 | h1 | h1; exact h1.2; all_goals omega
  obtain ⟨c, rfl, hc5, hc⟩ := isLn_cases I.gi h3.1
  obtain ⟨-, h5, h6⟩ := h3
  refine OK2.chg (v := gl (μ 1) c (7 + (gl (μ 1) c 5 - 1).toNat)) (co := fun s3 => f_X7_dropLast s3 (1 + 23 + 2 * c)) I hK hN ((gSh_ok I.gi hc h5 h6).mono (by omega)) (by simp only [if_pos (show 0 ≤ (c : Int) ∧ (c : Int) < 5 by omega)]; rfl) rfl (fun σk n1 R => ?_) ?_
  · obtain ⟨σ', o1, o2, o3, o4⟩ := c_dropLast n1 I.gi (R 1 (Or.inl rfl)) hc h5
    exact ⟨σ', o1, o2, o3, (R 1 (Or.inl rfl)).same o4⟩
  · have := m_shorten (μ := bgn μ) (bgG I) hc5 (by rw [bg1]; exact h5)
    rw [bg1] at this; exact this
theorem OK2.chg2 {fc : Option (So Sm)} {fm : Option (Sm × Int)} {xs : List (Nat × Int)} (I : INV K σ μ) (hK : K + 1 ≤ 80000) (hN : 340 < N) {g' : Ga} (G' : GI (K + 1) g') {v : Int} (ho : ∀ σk, f_X6_keep N σ 100 1 = some σk → NR 1 σk (μ 1) → RWS σk → ∃ σ', fc = some (σ', 0, v) ∧ NR 1 σ' g' ∧ offN 1 σk σ' ∧ RW 1 σ') (hm : ∃ μ', MS (bgn μ) μ' g' ∧ ∃ v9, ∀ μ2, f_X13_commit N μ' v9 = some (μ2, v9) → fm = some (μ2, v)) : OK2 fc fm (K + 1) xs := by
  obtain ⟨σk, e1, e2, e3, e4⟩ := chg_ok I (show K ≤ K + 1 by omega) hK hN
  obtain ⟨σ', o1, o2, o3, o4⟩ := ho σk e1 e2 e3
  obtain ⟨μo, p1, v9, p2⟩ := hm
  obtain ⟨μ', c1, c2, c3⟩ := e4 σ' g' o2 G' o3 o4 μo p1 v9
  exact ⟨σ', 0, v, μ', v, o1, p2 μ' c1, Or.inl ⟨rfl, c2, rfl⟩, c3⟩
/-- the rain: the class answers without an exception -/
theorem op_setRain (I : INV K σ μ) (hK : K + 1 ≤ 80000) (hN : 340 < N) {v : Int} (hv : bit v) : ∃ σ' μ' w, f_X12_setRain N σ v = some (σ', w) ∧ f_X13_setRain N μ v = some (μ', w) ∧ INV (K + 1) σ' μ' := by
  obtain ⟨σk, e1, e2, e3, e4⟩ := chg_ok I (show K ≤ K + 1 by omega) hK hN
  obtain ⟨n1, n2, n3⟩ := c_rain e2 I.gi (e3 1 (Or.inl rfl)) v
  obtain ⟨μo, p1, p2⟩ := m_flag (μ := bgn μ) (i := 6) (by decide) hv
  rw [bg1] at p1 p2
  obtain ⟨μ', c1, c2, c3⟩ := e4 _ _ n1 ((gRain_ok I.gi hv).mono (by omega)) n2 ((e3 1 (Or.inl rfl)).same n3) μo p2 (μ 1 6)
  have hr := I.gi.ra
  refine ⟨_, μ', μ 1 6, ?_, ?_, c3⟩
  · unfold f_X12_setRain
    rw [e1, Option.bind_some, bl_eq, bl_eq, e2.ra]
  · unfold f_X13_setRain
    rw [m_begin hN, Option.bind_some, show f_X13_flag (bgn μ) 6 v = _ from p1, Option.bind_some, c1, Option.bind_some]
    rcases hr with h | h <;> simp [h]
theorem op_setRainDelay (I : INV K σ μ) (hK : K + 1 ≤ 80000) (hN : 340 < N) (x m : Int) : OK2 (f_X12_setRainDelay N σ x m) (f_X13_setRainDelay N μ x m) (K + 1) [(1, 1), (2, 2)] := by
  unfold f_X12_setRainDelay f_X13_setRainDelay
  rw [m_begin hN, Option.bind_some, m_isLine (bgG I), Option.bind_some, bg1, m_in, Option.bind_some]
  by_cases h1 : 0 ≤ x ∧ x < μ 1 2
  · rw [if_pos h1, if_neg (by decide)]
    by_cases h2 : 0 ≤ m ∧ m ≤ 5
    · have hz : zDl (μ 1) x m = 0 := by unfold zDl; rw [if_pos h1, if_pos h2]
      rw [if_pos h2, if_neg (by decide), cl_go (by rw [c_dlF I.nr, hz])]
      obtain ⟨c, rfl, hc5, hc⟩ := isLn_cases I.gi h1
      refine OK2.chg2 (v := gl (μ 1) c 3) I hK hN ((gLn_ok I.gi hc (Or.inl ⟨rfl, h2⟩)).mono (by omega)) (fun σk e1 n1 R => ?_) ?_
      · obtain ⟨o1, o2, o3⟩ := c_lineCell n1 I.gi (R 1 (Or.inl rfl)) hc 3 m (Or.inl rfl)
        rw [if_pos rfl] at o1 o2 o3
        refine ⟨_, ?_, o1, o2, (R 1 (Or.inl rfl)).same o3⟩
        rw [e1, Option.bind_some, if_pos (by omega), bl_eq, bl_eq, Int.toNat_natCast, (n1.li c hc).2.2.2.1]
      · obtain ⟨μo, p1, p2⟩ := m_delays (μ := bgn μ) hc5 m
        rw [bg1] at p1 p2
        refine ⟨μo, p2, gl (μ 1) c 3, fun μ2 hc2 => ?_⟩
        rw [p1, Option.bind_some, hc2, Option.bind_some]
    · have hz : zDl (μ 1) x m = 2 := by unfold zDl; rw [if_pos h1, if_neg h2]
      rw [if_neg h2, if_pos rfl, cl_ref (c_dlF I.nr x m) (by rw [hz]; decide)]
      exact OK2.ref I hK rfl rfl (by rw [hz]; decide) (by rw [hz]; decide)
  · have hz : zDl (μ 1) x m = 1 := by unfold zDl; rw [if_neg h1]
    rw [if_neg h1, if_pos rfl, cl_ref (c_dlF I.nr x m) (by rw [hz]; decide)]
    exact OK2.ref I hK rfl rfl (by rw [hz]; decide) (by rw [hz]; decide)
theorem op_setClosed (I : INV K σ μ) (hK : K + 1 ≤ 80000) (hN : 340 < N) (x : Int) {v : Int} (hv : bit v) : OK2 (f_X12_setClosed N σ x v) (f_X13_setClosed N μ x v) (K + 1) [(1, 1)] := by
  unfold f_X12_setClosed f_X13_setClosed
  rw [m_begin hN, Option.bind_some, m_isStop (bgG I), Option.bind_some, bg1]
  by_cases h1 : 0 ≤ x ∧ x < μ 1 0
  · have hz : zSt (μ 1) x = 0 := by unfold zSt; rw [if_pos h1]
    obtain ⟨j, rfl, hj10, hj⟩ := isSt_cases I.gi h1
    rw [if_pos h1, if_neg (by decide), cl_go (by rw [c_stopIx I.nr, hz]), if_pos (by unfold rng; omega)]
    refine OK2.chg2 (v := μ 1 (13 + 2 * j)) I hK hN ((gCl_ok I.gi hj hv).mono (by omega)) (fun σk e1 n1 R => ?_) ?_
    · obtain ⟨o1, o2, o3⟩ := c_close n1 I.gi (R 1 (Or.inl rfl)) hj v
      refine ⟨_, ?_, o1, o2, (R 1 (Or.inl rfl)).same o3⟩
      rw [e1, Option.bind_some, if_pos (by omega), bl_eq, bl_eq, Int.toNat_natCast, ← n1.cl j hj]
    · obtain ⟨μo, p1, p2⟩ := m_flag (μ := bgn μ) (i := 13 + 2 * j) (by omega) hv
      rw [bg1] at p1 p2
      refine ⟨μo, p2, μ 1 (13 + 2 * j), fun μ2 hc2 => ?_⟩
      rw [show 12 + 2 * (j : Int) + 1 = ((13 + 2 * j : Nat) : Int) by omega, p1, Option.bind_some, hc2, Option.bind_some]
      rcases I.gi.cl j hj10 with h | h <;> simp [h]
  · have hz : zSt (μ 1) x = 1 := by unfold zSt; rw [if_neg h1]
    rw [if_neg h1, if_pos rfl, cl_ref (c_stopIx I.nr x) (by rw [hz]; decide)]
    exact OK2.ref I hK rfl rfl (by rw [hz]; decide) (by rw [hz]; decide)
theorem op_setSuspended (I : INV K σ μ) (hK : K + 1 ≤ 80000) (hN : 340 < N) (x : Int) {v : Int} (hv : bit v) : OK2 (f_X12_setSuspended N σ x v) (f_X13_setSuspended N μ x v) (K + 1) [(1, 1)] := by
  unfold f_X12_setSuspended f_X13_setSuspended
  rw [m_begin hN, Option.bind_some, m_isLine (bgG I), Option.bind_some, bg1]
  by_cases h1 : 0 ≤ x ∧ x < μ 1 2
  · have hz : zLn (μ 1) x = 0 := by unfold zLn; rw [if_pos h1]
    obtain ⟨c, rfl, hc5, hc⟩ := isLn_cases I.gi h1
    rw [if_pos h1, if_neg (by decide), cl_go (by rw [c_lineIx I.nr, hz]), if_pos (by unfold rng; omega)]
    refine OK2.chg2 (v := gl (μ 1) c 6) I hK hN ((gLn_ok I.gi hc (Or.inr ⟨rfl, hv⟩)).mono (by omega)) (fun σk e1 n1 R => ?_) ?_
    · obtain ⟨o1, o2, o3⟩ := c_lineCell n1 I.gi (R 1 (Or.inl rfl)) hc 6 v (Or.inr rfl)
      rw [if_neg (by decide)] at o1 o2 o3
      refine ⟨_, ?_, o1, o2, (R 1 (Or.inl rfl)).same o3⟩
      rw [e1, Option.bind_some, if_pos (by omega), bl_eq, bl_eq, Int.toNat_natCast, (n1.li c hc).2.2.2.2.2.1]
    · obtain ⟨μo, p1, p2⟩ := m_flag (μ := bgn μ) (i := 132 + 16 * c + 6) (by omega) hv
      rw [bg1] at p1 p2
      refine ⟨μo, p2, μ 1 (132 + 16 * c + 6), fun μ2 hc2 => ?_⟩
      rw [show 132 + 16 * (c : Int) + 6 = ((132 + 16 * c + 6 : Nat) : Int) by omega, p1, Option.bind_some, hc2, Option.bind_some]
      have hs := (I.gi.li c hc5).su
      unfold gl at hs ⊢
      rcases hs with h | h <;> simp [h]
  · have hz : zLn (μ 1) x = 1 := by unfold zLn; rw [if_neg h1]
    rw [if_neg h1, if_pos rfl, cl_ref (c_lineIx I.nr x) (by rw [hz]; decide)]
    exact OK2.ref I hK rfl rfl (by rw [hz]; decide) (by rw [hz]; decide)
end OPS
