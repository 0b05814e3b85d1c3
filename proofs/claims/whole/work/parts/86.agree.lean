/-! agreement of class and model, part 86 -/
/-! sellTicket, refund: the calls -/
def gRf (g : Ga) (p : Nat) : Ga := upf (upf (gRm g p) 7 (g 7 - gt g p 5)) 8 (g 8 + gt g p 5)
section SR
variable {b : Nat} {σ μ : Sm} {g : Ga} {K : Int} {N p : Nat}
theorem m_isRide (G : GI K (μ 1)) {c : Nat} (hc : c < 5) (t a e : Int) : f_X13_isRide μ c t a e = some (if (0 ≤ a ∧ a < e ∧ e ≤ gl (μ 1) c 5) ∧ 0 ≤ t ∧ t ≤ 99 then 1 else 0) := by
  unfold f_X13_isRide
  rw [m_in, Option.bind_some, m_l5 hc, Option.bind_some]
  repeat' split
  all_goals first | rfl | omega
theorem m_cSa (G : GI K (μ 1)) (x t a e : Int) (hN : 16 < N) : f_X13_cannotSell N μ x t a e = some (if zSa (μ 1) x t a e = 1 then 1 else if zSa (μ 1) x t a e = 2 then 2 else if zSa (μ 1) x t a e = 3 then 3 else if zSa (μ 1) x t a e = 5 then 4 else 0) := by
  unfold f_X13_cannotSell
  rw [m_isLine G, Option.bind_some]
  by_cases h1 : 0 ≤ x ∧ x < μ 1 2
  · obtain ⟨c, rfl, hc5, hc⟩ := isLn_cases G h1
    have h16 := G.tk
    have sz := (G.li c hc5).sz
    rw [if_pos h1, if_neg (by decide), m_isRide G hc5, Option.bind_some]
    by_cases h2 : (0 ≤ a ∧ a < e ∧ e ≤ gl (μ 1) c 5) ∧ 0 ≤ t ∧ t ≤ 99
    · have zr : zRd (μ 1) c t a e = 0 := by unfold zRd; rw [if_pos h1, Int.toNat_natCast, if_pos h2]
      have fr := fre_rng G hc5 t a e
      rw [if_pos h2, if_neg (by decide), m_isRunning hc5, Option.bind_some, m_free G hc5 t a e (by omega) hN, Option.bind_some]
      unfold zSa
      simp only [if_pos zr, Int.toNat_natCast]
      by_cases h3 : run (μ 1) c = true
      · simp only [h3, if_true, true_and]
        rw [if_neg (by decide)]
        by_cases h4 : μ 1 3 < 16
        · rw [if_neg (by omega), if_pos h4]
          by_cases h5 : 0 < fre (μ 1) c t a e
          · rw [if_neg (by omega), if_pos h5]; rfl
          · rw [if_pos (by omega), if_neg h5]; rfl
        · rw [if_pos (by omega), if_neg h4]; rfl
      · simp [h3]
    · have zr : zRd (μ 1) c t a e = 2 := by unfold zRd; rw [if_pos h1, Int.toNat_natCast, if_neg h2]
      unfold zSa
      rw [if_neg h2, if_pos rfl, zr]; rfl
  · have zr : zRd (μ 1) x t a e = 1 := by unfold zRd; rw [if_neg h1]
    unfold zSa
    rw [if_neg h1, if_pos rfl, zr]; rfl
theorem zSa_cases (g : Ga) (x t a e : Int) : (zSa g x t a e = 0 ∧ (0 ≤ x ∧ x < g 2) ∧ (0 ≤ a ∧ a < e ∧ e ≤ gl g x.toNat 5) ∧ (0 ≤ t ∧ t ≤ 99) ∧ run g x.toNat = true ∧ g 3 < 16 ∧ 0 < fre g x.toNat t a e) ∨ zSa g x t a e = 1 ∨ zSa g x t a e = 2 ∨ zSa g x t a e = 3 ∨ zSa g x t a e = 5 := by
  unfold zSa
  by_cases h : zRd g x t a e = 0
  · obtain ⟨h1, h2, h3⟩ := zRd_0 h
    rw [if_pos h]
    by_cases h4 : run g x.toNat = true ∧ g 3 < 16
    · rw [if_pos h4]
      by_cases h5 : 0 < fre g x.toNat t a e
      · rw [if_pos h5]; exact Or.inl ⟨rfl, h1, h2, h3, h4.1, h4.2, h5⟩
      · rw [if_neg h5]; omega
    · rw [if_neg h4]; omega
  · rw [if_neg h]
    unfold zRd at h ⊢
    repeat' split at h
    all_goals first | (exact absurd rfl h) | skip
    · rename_i h1 h2; rw [if_pos h1, if_neg h2]; omega
    · rename_i h1; rw [if_neg h1]; omega
theorem op_sellTicket (I : INV K σ μ) (hK : K + 1 ≤ 80000) (hN : 340 < N) (x t a e : Int) : OK2 (f_X12_sellTicket N σ x t a e) (f_X13_sellTicket N μ x t a e) (K + 1) [(1, 1), (2, 2), (3, 3), (5, 4)] := by
  have e9 := m_cSa (bgG I) x t a e (N := N) (by omega)
  rw [bg1] at e9
  have hz := zSa_cases (μ 1) x t a e
  unfold f_X12_sellTicket f_X13_sellTicket
  refine op_gen (fw := fun s => f_X13_cannotSell N s x t a e) I hK hN (c_saF I.nr I.gi x t a e (by omega)) (by omega) e9 (fun h => by rw [h]; rfl) (fun h => by rcases hz with h1 | h1 | h1 | h1 | h1; exact absurd h1.1 h; all_goals rw [h1]; decide) (fun h => ?_)
  obtain ⟨h1, h2, h3, h4, h5, h6⟩ : (0 ≤ x ∧ x < μ 1 2) ∧ (0 ≤ a ∧ a < e ∧ e ≤ gl (μ 1) x.toNat 5) ∧ (0 ≤ t ∧ t ≤ 99) ∧ run (μ 1) x.toNat = true ∧ μ 1 3 < 16 ∧ 0 < fre (μ 1) x.toNat t a e := by rcases hz with h1 | h1 | h1 | h1 | h1; exact h1.2; all_goals omega
  obtain ⟨c, rfl, hc5, hc⟩ := isLn_cases I.gi h1
  have sz := (I.gi.li c hc5).sz
  refine OK2.chg (v := μ 1 4) I hK hN (gSl_ok I.gi hc h3 h2 h5 h6) rfl rfl (fun σk n1 R => ?_) ?_
  · obtain ⟨σ', o1, o2, o3, o4⟩ := c_putTicket n1 I.gi (R 1 (Or.inl rfl)) (c := c) (t := t) h5 (a := a) (e := e) ⟨h2.1, h2.2.1, by have := h2.2.2; rw [Int.toNat_natCast] at this; omega⟩ (by omega)
    exact ⟨σ', o1, o2, o3, (R 1 (Or.inl rfl)).same o4⟩
  · have := m_sells (μ := bgn μ) (bgG I) (c := c) (t := t) (a := a) (e := e) (by rw [bg1]; exact h5) ⟨h2.1, h2.2.1, by have := h2.2.2; rw [Int.toNat_natCast] at this; omega⟩ (by omega)
    rw [bg1] at this; exact this
theorem gRm_up (g : Ga) (p i : Nat) (v : Int) (hi : i < 212) (h3 : i ≠ 3) : gRm (upf g i v) p = upf (gRm g p) i v := by
  funext j
  have e3 : upf g i v 3 = g 3 := upf_ne (by omega)
  unfold gRm
  rw [e3]
  by_cases q : j = i
  · subst q
    rw [upf_eq, if_neg h3, if_neg (by omega), if_neg (by omega), upf_eq]
  · rw [upf_ne q, upf_ne q]
    repeat' split
    all_goals first | rfl | (rw [upf_ne (by omega)])
theorem gRf_ok (G : GI K g) (h3 : (p : Int) < g 3) : GI (K + 1) (gRf g p) := by
  have pr := (G.ti p h3).pr
  have hic := G.ic
  have hrf := G.rf
  have G1 := (gRm_ok G h3).mono (show K ≤ K + 1 by omega)
  have en : ∀ i, i ≠ 7 → i ≠ 8 → gRf g p i = gRm g p i := fun i h1 h2 => by unfold gRf; rw [upf_ne h2, upf_ne h1]
  apply GI.mk
  · rw [en _ (by decide) (by decide)]; exact G1.st
  · rw [en _ (by decide) (by decide)]; exact G1.wk
  · rw [en _ (by decide) (by decide)]; exact G1.ln
  · rw [en _ (by decide) (by decide)]; exact G1.tk
  · rw [en _ (by decide) (by decide)]; exact G1.nx
  · rw [en _ (by decide) (by decide)]; exact G1.mi
  · rw [en _ (by decide) (by decide)]; exact G1.ra
  · unfold gRf; rw [upf_ne (by decide), upf_eq]; omega
  · unfold gRf; rw [upf_eq]; omega
  · rw [en _ (by decide) (by decide)]; exact G1.us
  · exact G1.trC (fun i h1 h2 => en _ (by omega) (by omega))
  · exact G1.clC (fun i h1 h2 => en _ (by omega) (by omega))
  · exact G1.coC (fun i h1 h2 => en _ (by omega) (by omega)) (by rw [en _ (by decide) (by decide)]; omega)
  · exact G1.wlC (fun i h1 h2 => en _ (by omega) (by omega))
  · exact G1.liC (fun i h1 h2 => en _ (by omega) (by omega)) (by rw [en _ (by decide) (by decide)]; omega) (en _ (by decide) (by decide))
  · exact G1.tiC (fun i h1 h2 => en _ (by omega) (by omega)) (en _ (by decide) (by decide)) (by rw [en _ (by decide) (by decide)]; omega) (by rw [en _ (by decide) (by decide)]; omega) (fun c hc _ => en _ (by omega) (by omega))
  · exact G1.capC (fun i h1 h2 => en _ (by omega) (by omega)) (en _ (by decide) (by decide)) (fun c hc => by unfold gl; rw [en _ (by omega) (by omega)]; omega)
/-- the accounts change -/
theorem NR.acc (h : NR b σ g) (G : GI K g) (R : RW b σ) (i v : Nat) (x : Int) (hi : (i = 3 ∧ v = 7) ∨ (i = 4 ∧ v = 8) ∨ (i = 5 ∧ v = 9)) : NR b (upm σ (b + 5) i x) (upf g v x) := by
  have h0 := G.st
  have en : ∀ j, j ≠ v → upf g v x j = g j := fun j hj => upf_ne hj
  have ol : ∀ r, r ≠ b + 5 → upm σ (b + 5) i x r = σ r := fun r hr => upm_role hr
  apply NR.mk
  · rw [ol b (by omega), en _ (by omega)]; exact h.mi
  · rw [ol b (by omega), en _ (by omega)]; exact h.ra
  · rw [ol b (by omega), en _ (by omega)]; exact h.st
  · rw [ol b (by omega), en _ (by omega)]; exact h.wk
  · rw [ol b (by omega), en _ (by omega)]; exact h.ln
  · intro j hj
    rw [en 0 (by omega)] at hj
    rw [ol _ (by omega), en _ (by omega)]; exact h.tr j hj
  · intro j hj
    rw [en 0 (by omega)] at hj
    rw [ol _ (by omega), en _ (by omega)]; exact h.cl j hj
  · intro y z hy hz
    rw [ol _ (by omega), en _ (by omega)]; exact h.wl y z hy hz
  · exact h.liC G (fun r h1 h2 => ol r (by omega)) (fun j h1 h2 => en j (by omega)) (en _ (by omega))
  · exact h.rgC G (fun r h1 h2 => ol r (by omega)) (fun j h1 h2 => en j (by omega)) (en _ (by omega))
  · rw [upm_cell (by omega), en _ (by omega)]; exact h.tk
  · rw [upm_cell (by omega), en _ (by omega)]; exact h.nx
  · rcases hi with ⟨rfl, rfl⟩ | ⟨rfl, rfl⟩ | ⟨rfl, rfl⟩
    · rw [upm_same, upf_eq]
    · rw [upm_cell (by omega), en _ (by omega)]; exact h.ic
    · rw [upm_cell (by omega), en _ (by omega)]; exact h.ic
  · rcases hi with ⟨rfl, rfl⟩ | ⟨rfl, rfl⟩ | ⟨rfl, rfl⟩
    · rw [upm_cell (by omega), en _ (by omega)]; exact h.rf
    · rw [upm_same, upf_eq]
    · rw [upm_cell (by omega), en _ (by omega)]; exact h.rf
  · rcases hi with ⟨rfl, rfl⟩ | ⟨rfl, rfl⟩ | ⟨rfl, rfl⟩
    · rw [upm_cell (by omega), en _ (by omega)]; exact h.us
    · rw [upm_cell (by omega), en _ (by omega)]; exact h.us
    · rw [upm_same, upf_eq]
  · exact h.tiC G R (fun r h1 h2 => ol r (by omega)) (fun j h1 h2 => en j (by omega)) (en _ (by omega))
theorem gt_up {i k v : Nat} {x : Int} (hi : i < 212) : gt (upf g i x) k v = gt g k v := by unfold gt; rw [upf_ne (by omega)]
/-- the accounts of g may be wider than GI says while they change -/
theorem GI.acc (G : GI K g) (x y : Int) (hx : -(18 * (K + 1)) ≤ x ∧ x ≤ 18 * (K + 1)) (hy : 0 ≤ y ∧ y ≤ 18 * (K + 1)) : GI (K + 1) (upf (upf g 7 x) 8 y) := by
  have G1 := G.mono (show K ≤ K + 1 by omega)
  have en : ∀ i, i ≠ 7 → i ≠ 8 → upf (upf g 7 x) 8 y i = g i := fun i h1 h2 => by rw [upf_ne h2, upf_ne h1]
  apply GI.mk
  · rw [en _ (by decide) (by decide)]; exact G1.st
  · rw [en _ (by decide) (by decide)]; exact G1.wk
  · rw [en _ (by decide) (by decide)]; exact G1.ln
  · rw [en _ (by decide) (by decide)]; exact G1.tk
  · rw [en _ (by decide) (by decide)]; exact G1.nx
  · rw [en _ (by decide) (by decide)]; exact G1.mi
  · rw [en _ (by decide) (by decide)]; exact G1.ra
  · rw [upf_ne (by decide), upf_eq]; exact hx
  · rw [upf_eq]; exact hy
  · rw [en _ (by decide) (by decide)]; exact G1.us
  · exact G1.trC (fun i h1 h2 => en _ (by omega) (by omega))
  · exact G1.clC (fun i h1 h2 => en _ (by omega) (by omega))
  · exact G1.coC (fun i h1 h2 => en _ (by omega) (by omega)) (by rw [en _ (by decide) (by decide)]; omega)
  · exact G1.wlC (fun i h1 h2 => en _ (by omega) (by omega))
  · exact G1.liC (fun i h1 h2 => en _ (by omega) (by omega)) (by rw [en _ (by decide) (by decide)]; omega) (en _ (by decide) (by decide))
  · exact G1.tiC (fun i h1 h2 => en _ (by omega) (by omega)) (en _ (by decide) (by decide)) (by rw [en _ (by decide) (by decide)]; omega) (by rw [en _ (by decide) (by decide)]; omega) (fun c hc _ => en _ (by omega) (by omega))
  · exact G1.capC (fun i h1 h2 => en _ (by omega) (by omega)) (en _ (by decide) (by decide)) (fun c hc => by unfold gl; rw [en _ (by omega) (by omega)]; omega)
theorem c_giveBack (h : NR b σ g) (G : GI K g) (R : RW b σ) (h3 : (p : Int) < g 3) (hN : 16 < N) (hK : 0 ≤ K ∧ K ≤ 1000000) : ∃ σ', f_X11_giveBack N σ (b + 5) p = some (σ', gt g p 5) ∧ NR b σ' (gRf g p) ∧ offN b σ σ' ∧ RW b σ' := by
  have h16 := G.tk
  have pr := (G.ti p h3).pr
  have hic := G.ic
  have hrf := G.rf
  unfold f_X11_giveBack
  rw [if_neg (by omega), h.tk, if_pos h3, if_pos (by omega), c_tk h h3 (by omega), bl_eq, h.ic, if_pos (by unfold rng; omega), bl_eq, upm_cell (by decide), h.rf, if_pos (by unfold rng; omega), bl_eq]
  have n1 := h.acc G R 3 7 (g 7 - gt g p 5) (Or.inl ⟨rfl, rfl⟩)
  have R1 : RW b (upm σ (b + 5) 3 (g 7 - gt g p 5)) := R.same (upm_role (by omega))
  have G1 : GI (K + 1) (upf (upf g 7 (g 7 - gt g p 5)) 8 (g 8)) := G.acc _ _ (by omega) (by omega)
  have G1' : GI (K + 1) (upf g 7 (g 7 - gt g p 5)) := G1.eqv (fun i _ => by
    by_cases q : i = 8
    · subst q; rw [upf_eq, upf_ne (by decide)]
    · rw [upf_ne (i := 8) q])
  have n2 := n1.acc G1' R1 4 8 (g 8 + gt g p 5) (Or.inr (Or.inl ⟨rfl, rfl⟩))
  have R2 : RW b (upm (upm σ (b + 5) 3 (g 7 - gt g p 5)) (b + 5) 4 (g 8 + gt g p 5)) := R1.same (upm_role (by omega))
  have G2 : GI (K + 1) (upf (upf g 7 (g 7 - gt g p 5)) 8 (g 8 + gt g p 5)) := G.acc _ _ (by omega) (by omega)
  obtain ⟨σ', d1, d2, d3, d4⟩ := c_drop (p := p) n2 G2 R2 (by rw [upf_ne (by decide), upf_ne (by decide)]; exact h3) hN
  rw [d1, Option.bind_some]
  refine ⟨σ', rfl, ?_, fun r hr => ?_, d4⟩
  · rw [gRm_up _ _ _ _ (by decide) (by decide), gRm_up _ _ _ _ (by decide) (by decide)] at d2
    exact d2
  · rw [d3 r (by omega) (by omega), upm_role (by omega), upm_role (by omega)]
theorem plt_cases (G : GI K g) (i : Int) : plt g i = -1 ∨ ∃ p : Nat, plt g i = (p : Int) ∧ (p : Int) < g 3 ∧ gt g p 0 = i := by
  have := G.tk
  unfold plt
  rcases ffd_cases (fun k => decide (gt g k 0 = i)) (g 3).toNat with ⟨h, -⟩ | ⟨k, h1, h2, h3, h4⟩
  · exact Or.inl h
  · exact Or.inr ⟨k, h4, by omega, by simpa using h2⟩
theorem m_refunds (G : GI K (μ 1)) {i : Int} (hp : plt (μ 1) i = (p : Int)) (h3 : (p : Int) < μ 1 3) (hN : 340 < N) (hK : 0 ≤ K ∧ K ≤ 1000000) : ∃ μ', f_X13_refunds N μ i = some (μ', gt (μ 1) p 5) ∧ MS μ μ' (gRf (μ 1) p) := by
  have h16 := G.tk
  have pr := (G.ti p h3).pr
  have hic := G.ic
  have hrf := G.rf
  obtain ⟨μ', e1, e2⟩ := m_remove (N := N) G h3 hN
  unfold f_X13_refunds
  have f7 : μ' 1 7 = μ 1 7 := by rw [e2.2]; exact gRm_lo (by decide) (by omega) h3
  have f8 : μ' 1 8 = μ 1 8 := by rw [e2.2]; exact gRm_lo (by decide) (by omega) h3
  rw [m_ticket G _ (by omega), Option.bind_some, hp, m_t5 (by omega), Option.bind_some, Option.bind_some, e1, Option.bind_some, f7, if_pos (by unfold rng; omega), bl_eq, upm_cell (by decide), f8, if_pos (by unfold rng; omega), bl_eq]
  exact ⟨_, rfl, (e2.up 7 _).up 8 _⟩
theorem op_refund (I : INV K σ μ) (hK : K + 1 ≤ 80000) (hN : 340 < N) (x : Int) : OK2 (f_X12_refund N σ x) (f_X13_refund N μ x) (K + 1) [(4, 1)] := by
  have hkb := I.kb
  unfold f_X12_refund f_X13_refund f_X12_knownTicket
  rw [show f_X11_placeOfId N σ 6 x = some (plt (μ 1) x) from c_placeOfId I.nr I.gi x (by omega), m_begin hN, Option.bind_some, Option.bind_some, m_ticket (bgG I) x (by omega), Option.bind_some, bg1]
  rcases plt_cases I.gi x with h | ⟨p, h, h3, -⟩
  · rw [h, if_pos rfl, if_neg (by decide)]
    exact OK2.ref (z := 4) (w := 1) I hK rfl rfl (by decide) (by decide)
  · rw [h, if_neg (by omega), if_pos (by omega), Option.bind_some, if_pos rfl]
    refine OK2.chg2 (v := gt (μ 1) p 5) I hK hN (gRf_ok I.gi h3) (fun σk e1 n1 R => ?_) ?_
    · obtain ⟨σ', o1, o2, o3, o4⟩ := c_giveBack (N := N) n1 I.gi (R 1 (Or.inl rfl)) h3 (by omega) (by omega)
      refine ⟨σ', ?_, o2, o3, o4⟩
      rw [e1, Option.bind_some, show f_X11_giveBack N σk 6 (p : Int) = _ from o1, Option.bind_some]
    · obtain ⟨μo, p1, p2⟩ := m_refunds (μ := bgn μ) (N := N) (p := p) (bgG I) (i := x) (by rw [bg1]; exact h) (by rw [bg1]; exact h3) hN (by omega)
      rw [bg1] at p1 p2
      refine ⟨μo, p2, gt (μ 1) p 5, fun μ2 hc2 => ?_⟩
      rw [p1, Option.bind_some, hc2, Option.bind_some]
end SR
