/-! agreement of class and model, part 82 -/
/-! the calls that change the network -/
def OK2 (fc : Option (So Sm)) (fm : Option (Sm × Int)) (K : Int) (xs : List (Nat × Int)) : Prop := ∃ (σ' : Sm) (z : Nat) (r : Int) (μ' : Sm) (w : Int), fc = some (σ', z, r) ∧ fm = some (μ', w) ∧ ((z = 0 ∧ μ' 11 0 = 0 ∧ r = w) ∨ (z ≠ 0 ∧ (z, μ' 11 0) ∈ xs)) ∧ INV K σ' μ'
theorem c_refuse (σ : Sm) {z : Int} (hz : 0 ≤ z ∧ z ≤ 5) : f_X12_refuse σ z = some (σ, z.toNat, 0) := by
  obtain ⟨k, rfl⟩ := Int.eq_ofNat_of_zero_le hz.1
  rcases (by omega : k = 0 ∨ k = 1 ∨ k = 2 ∨ k = 3 ∨ k = 4 ∨ k = 5) with rfl | rfl | rfl | rfl | rfl | rfl <;> rfl
section TM
variable {σ μ : Sm} {g : Ga} {K : Int} {N : Nat}
theorem m_cAS (G : GI K (μ 1)) (x : Int) : f_X13_cannotAddStop μ x = some (if zAS (μ 1) x = 2 then 1 else if zAS (μ 1) x = 3 then 2 else 0) := by
  have := G.st
  unfold f_X13_cannotAddStop zAS
  rw [m_in, Option.bind_some]
  by_cases h : 0 ≤ x ∧ x ≤ 9
  · rw [if_pos h, if_pos h, if_neg (by decide)]
    by_cases q : μ 1 0 < 10
    · rw [if_neg (by omega), if_pos q]; rfl
    · rw [if_pos (by omega), if_neg q]; rfl
  · rw [if_neg h, if_neg h]; rfl
theorem m_cAW (G : GI K (μ 1)) (x y m : Int) : f_X13_cannotWalk μ x y m = some (if zAW (μ 1) x y m = 1 then 1 else if zAW (μ 1) x y m = 2 then 2 else if zAW (μ 1) x y m = 3 then 3 else 0) := by
  unfold f_X13_cannotWalk zAW
  rw [m_areStops G, Option.bind_some, m_in]
  by_cases h : (0 ≤ x ∧ x < μ 1 0) ∧ 0 ≤ y ∧ y < μ 1 0
  · simp only [if_pos h]
    have hr := wlki_rng G h.1 h.2
    obtain ⟨k, rfl, hk, -⟩ := isSt_cases G h.1
    obtain ⟨j, rfl, hj, -⟩ := isSt_cases G h.2
    have hw := G.wk
    rw [if_neg (by decide), m_walk hk hj, Option.bind_some, Option.bind_some]
    have e : wlki (μ 1) k j = wlk (μ 1) k j := rfl
    rw [e] at hr ⊢
    by_cases q : (k : Int) = j
    · rw [if_pos q, Option.some.injEq]
      repeat' split
      all_goals omega
    · rw [if_neg q]
      by_cases q2 : 1 ≤ m ∧ m ≤ 30
      · rw [if_pos q2, if_neg (by decide)]
        by_cases q3 : wlk (μ 1) k j = 0
        · by_cases q4 : μ 1 1 < 15
          · rw [if_neg (by omega), if_neg (by omega), Option.some.injEq]
            repeat' split
            all_goals omega
          · rw [if_neg (by omega), if_pos (by omega), Option.some.injEq]
            repeat' split
            all_goals omega
        · rw [if_pos (by omega), Option.some.injEq]
          repeat' split
          all_goals omega
      · rw [if_neg q2, if_pos rfl, Option.some.injEq]
        repeat' split
        all_goals omega
  · simp only [if_neg h]; rfl
theorem m_cWd (G : GI K (μ 1)) (x y : Int) : f_X13_noWalk μ x y = some (if zWd (μ 1) x y = 1 then 1 else if zWd (μ 1) x y = 4 then 2 else 0) := by
  unfold f_X13_noWalk zWd
  rw [m_areStops G, Option.bind_some]
  by_cases h : (0 ≤ x ∧ x < μ 1 0) ∧ 0 ≤ y ∧ y < μ 1 0
  · simp only [if_pos h]
    have hr := wlki_rng G h.1 h.2
    obtain ⟨k, rfl, hk, -⟩ := isSt_cases G h.1
    obtain ⟨j, rfl, hj, -⟩ := isSt_cases G h.2
    rw [if_neg (by decide), m_walk hk hj, Option.bind_some]
    have e : wlki (μ 1) k j = wlk (μ 1) k j := rfl
    rw [e] at hr ⊢
    by_cases q3 : wlk (μ 1) k j = 0
    · rw [if_pos q3, Option.some.injEq]
      repeat' split
      all_goals omega
    · rw [if_neg q3, Option.some.injEq]
      repeat' split
      all_goals omega
  · simp only [if_neg h]; rfl
theorem m_cAL (G : GI K (μ 1)) (x1 x2 x3 x4 : Int) : f_X13_cannotAddLine μ x1 x2 x3 x4 = some (if zAL (μ 1) x1 x2 x3 x4 = 2 then 1 else if zAL (μ 1) x1 x2 x3 x4 = 3 then 2 else 0) := by
  have hl := G.ln
  unfold f_X13_cannotAddLine zAL
  rw [m_in, m_in, m_in, m_in]
  simp only [Option.bind_some]
  by_cases h1 : 1 ≤ x1 ∧ x1 ≤ 60
  · rw [if_pos h1, if_neg (by decide)]
    by_cases h2 : 0 ≤ x2 ∧ x2 ≤ 59
    · rw [if_pos h2, if_neg (by decide)]
      by_cases h3 : 1 ≤ x3 ∧ x3 ≤ 9
      · rw [if_pos h3, if_neg (by decide)]
        by_cases h4 : 1 ≤ x4 ∧ x4 ≤ 20
        · rw [if_pos h4, if_neg (by decide), if_pos (show (1 ≤ x1 ∧ x1 ≤ 60) ∧ (0 ≤ x2 ∧ x2 ≤ 59) ∧ (1 ≤ x3 ∧ x3 ≤ 9) ∧ 1 ≤ x4 ∧ x4 ≤ 20 from ⟨h1, h2, h3, h4⟩)]
          by_cases q : μ 1 2 < 5
          · rw [if_neg (by omega), Option.some.injEq]
            repeat' split
            all_goals omega
          · rw [if_pos (by omega), Option.some.injEq]
            repeat' split
            all_goals omega
        · rw [if_neg h4, if_pos rfl, Option.some.injEq]
          repeat' split
          all_goals omega
      · rw [if_neg h3, if_pos rfl, Option.some.injEq]
        repeat' split
        all_goals omega
    · rw [if_neg h2, if_pos rfl, Option.some.injEq]
      repeat' split
      all_goals omega
  · rw [if_neg h1, if_pos rfl, Option.some.injEq]
    repeat' split
    all_goals omega
theorem m_cEx (G : GI K (μ 1)) (x y : Int) (hN : 16 < N) : f_X13_cannotExtend N μ x y = some (if zEx (μ 1) x y = 1 then 1 else if zEx (μ 1) x y = 3 then 2 else if zEx (μ 1) x y = 5 then 3 else 0) := by
  unfold f_X13_cannotExtend zEx
  by_cases h1 : 0 ≤ x ∧ x < μ 1 2
  · by_cases h2 : 0 ≤ y ∧ y < μ 1 0
    · obtain ⟨c, rfl, hc5, hc⟩ := isLn_cases G h1
      have ht := tof_rng G c
      have sz := (G.li c hc5).sz
      rw [m_ln1 G h1, m_st1 G h2, Option.bind_some, Option.bind_some, if_neg (by decide), if_neg (by decide), m_l5 hc5, Option.bind_some, m_ticketsOf G _ hN, Option.bind_some, m_placeIn G hc5 _ (by omega), Option.bind_some, if_pos (show (0 ≤ (c : Int) ∧ (c : Int) < μ 1 2) ∧ 0 ≤ y ∧ y < μ 1 0 from ⟨h1, h2⟩), Int.toNat_natCast]
      by_cases q : gl (μ 1) c 5 < 6
      · rw [if_neg (by omega)]
        by_cases q2 : tof (μ 1) c = 0
        · rw [if_pos (by omega), if_pos (show gl (μ 1) c 5 < 6 ∧ tof (μ 1) c = 0 from ⟨q, q2⟩)]
          rcases ffd_rng (fun p => decide (gl (μ 1) c (7 + p) = y)) (gl (μ 1) c 5).toNat with e | e
          · have e2 : pla (μ 1) c y = -1 := e
            rw [e2]; rfl
          · have e2 : 0 ≤ pla (μ 1) c y := e.1
            rw [if_neg (by omega), Option.some.injEq]
            repeat' split
            all_goals omega
        · rw [if_neg (by omega), Option.some.injEq]
          repeat' split
          all_goals omega
      · rw [if_pos (by omega), Option.some.injEq]
        repeat' split
        all_goals omega
    · rw [m_ln1 G h1, m_st0 G h2, Option.bind_some, Option.bind_some, if_neg (by decide), if_pos rfl, if_neg (show ¬ ((0 ≤ x ∧ x < μ 1 2) ∧ 0 ≤ y ∧ y < μ 1 0) from fun z => h2 z.2)]; rfl
  · rw [m_ln0 G h1, Option.bind_some, if_pos rfl, if_neg (show ¬ ((0 ≤ x ∧ x < μ 1 2) ∧ 0 ≤ y ∧ y < μ 1 0) from fun z => h1 z.1)]; rfl
theorem m_cSh (G : GI K (μ 1)) (x : Int) (hN : 16 < N) : f_X13_cannotShorten N μ x = some (if zSh (μ 1) x = 1 then 1 else if zSh (μ 1) x = 4 then 2 else if zSh (μ 1) x = 3 then 3 else 0) := by
  unfold f_X13_cannotShorten zSh
  by_cases h1 : 0 ≤ x ∧ x < μ 1 2
  · obtain ⟨c, rfl, hc5, hc⟩ := isLn_cases G h1
    have ht := tof_rng G c
    rw [m_ln1 G h1, Option.bind_some, if_neg (by decide), m_l5 hc5, Option.bind_some, m_ticketsOf G _ hN, Option.bind_some]
    simp only [if_pos h1, Int.toNat_natCast]
    by_cases q : gl (μ 1) c 5 = 0
    · simp only [if_pos q]; rfl
    · simp only [if_neg q]
      by_cases q2 : tof (μ 1) c = 0
      · rw [if_pos (by omega)]; simp only [if_pos q2]; rfl
      · rw [if_neg (by omega)]; simp only [if_neg q2]; rfl
  · rw [m_ln0 G h1, Option.bind_some, if_pos rfl]; simp only [if_neg h1]; rfl
theorem cl_ref {fz : Option Int} {k : So Sm → Option (So Sm)} {z : Int} (hf : fz = some z) (hz : 1 ≤ z ∧ z ≤ 5) : (fz.bind fun v1 => (f_X12_refuse σ v1).bind fun v2 => if v2.2.1 = 0 then k v2 else some (xw v2)) = some (σ, z.toNat, 0) := by
  rw [hf, Option.bind_some, c_refuse σ (by omega), Option.bind_some, if_neg (by show z.toNat ≠ 0; omega)]
theorem cl_go {fz : Option Int} {k : So Sm → Option (So Sm)} (hf : fz = some 0) : (fz.bind fun v1 => (f_X12_refuse σ v1).bind fun v2 => if v2.2.1 = 0 then k v2 else some (xw v2)) = k (σ, 0, 0) := by
  rw [hf, Option.bind_some, c_refuse σ (by decide), Option.bind_some]; rfl
theorem ml_ref (I : INV K σ μ) (hN : 340 < N) {fw : Sm → Option Int} {k : Sm → Option (Sm × Int)} {w : Int} (hf : fw (bgn μ) = some w) (hw : 0 < w) : ((f_X13_begin N μ).bind fun s1 => (fw s1).bind fun v2 => (if v2 ≤ 0 then k s1 else (f_X13_fail s1 v2).bind fun v6 => some (v6.1, v6.2))) = some (upm (bgn μ) 11 0 w, 0) := by
  rw [m_begin hN, Option.bind_some, hf, Option.bind_some, if_neg (by omega)]; rfl
theorem ml_go (hN : 340 < N) {fw : Sm → Option Int} {k : Sm → Option (Sm × Int)} (hf : fw (bgn μ) = some 0) : ((f_X13_begin N μ).bind fun s1 => (fw s1).bind fun v2 => (if v2 ≤ 0 then k s1 else (f_X13_fail s1 v2).bind fun v6 => some (v6.1, v6.2))) = k (bgn μ) := by
  rw [m_begin hN, Option.bind_some, hf, Option.bind_some, if_pos (by omega)]
theorem OK2.ref {fc : Option (So Sm)} {fm : Option (Sm × Int)} {xs : List (Nat × Int)} (I : INV K σ μ) (hK : K + 1 ≤ 80000) {z : Nat} {w : Int} (hc : fc = some (σ, z, 0)) (hm : fm = some (upm (bgn μ) 11 0 w, 0)) (hz : z ≠ 0) (hx : (z, w) ∈ xs) : OK2 fc fm (K + 1) xs := by
  obtain ⟨-, r⟩ := ref_ok I w
  refine ⟨_, _, _, _, _, hc, hm, Or.inr ⟨hz, by rw [upm_same]; exact hx⟩, ?_⟩
  exact rest_ok r (by omega) hK r.nr (r.gi.mono (by omega)) r.rw r.hn r.hc (fun d hd => ⟨(r.hi d hd).1, (r.hi d hd).2.mono (by omega)⟩) rfl (fun _ _ _ => rfl) (fun _ _ => rfl) (fun _ _ _ _ _ _ _ _ => rfl)
theorem OK2.chg {fc : Option (So Sm)} {fm : Option (Sm × Int)} {xs : List (Nat × Int)} (I : INV K σ μ) (hK : K + 1 ≤ 80000) (hN : 340 < N) {g' : Ga} (G' : GI (K + 1) g') {v : Int} {co : Sm → Option (Sm × Int)} {mo : Option (Sm × Int)} (hc : fc = (f_X6_keep N σ 100 1).bind fun s3 => (co s3).bind fun v4 => some (v4.1, 0, v4.2)) (hm : fm = mo.bind fun v4 => (f_X13_commit N v4.1 v4.2).bind fun v5 => some (v5.1, v5.2)) (ho : ∀ σk, NR 1 σk (μ 1) → RWS σk → ∃ σ', co σk = some (σ', v) ∧ NR 1 σ' g' ∧ offN 1 σk σ' ∧ RW 1 σ') (mo2 : ∃ μ', mo = some (μ', v) ∧ MS (bgn μ) μ' g') : OK2 fc fm (K + 1) xs := by
  obtain ⟨σk, e1, e2, e3, e4⟩ := chg_ok I (show K ≤ K + 1 by omega) hK hN
  obtain ⟨σ', o1, o2, o3, o4⟩ := ho σk e2 e3
  obtain ⟨μo, p1, p2⟩ := mo2
  obtain ⟨μ', c1, c2, c3⟩ := e4 σ' g' o2 G' o3 o4 μo p2 v
  refine ⟨σ', 0, v, μ', v, ?_, ?_, Or.inl ⟨rfl, c2, rfl⟩, c3⟩
  · rw [hc, e1, Option.bind_some, o1, Option.bind_some]
  · rw [hm, p1, Option.bind_some, c1, Option.bind_some]
end TM
