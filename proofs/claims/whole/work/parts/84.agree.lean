/-! agreement of class and model, part 84 -/
/-! a ticket goes -/
/-- the p-th ticket is taken out of g -/
def gRm (g : Ga) (p : Nat) : Ga := fun i => if i = 3 then g 3 - 1 else if 212 + 8 * p ≤ i ∧ i < 212 + 8 * (g 3 - 1).toNat then g (i + 8) else if 212 + 8 * (g 3 - 1).toNat ≤ i ∧ i < 212 + 8 * (g 3 - 1).toNat + 8 then 0 else g i
section RM
variable {b : Nat} {σ μ : Sm} {g : Ga} {K : Int} {N p : Nat}
theorem gRm_lo {i : Nat} (h : i ≠ 3) (h2 : i < 212 + 8 * p) (h3 : (p : Int) < g 3) : gRm g p i = g i := by
  unfold gRm
  rw [if_neg h, if_neg (by omega), if_neg (by omega)]
theorem gRm_t (h3 : (p : Int) < g 3) {k v : Nat} (hk : (k : Int) < g 3 - 1) (hv : v < 8) : gt (gRm g p) k v = gt g (if k < p then k else k + 1) v := by
  unfold gt gRm
  rw [if_neg (by omega)]
  by_cases q : k < p
  · rw [if_neg (by omega), if_neg (by omega), if_pos q]
  · rw [if_pos (by omega), if_neg q]
    congr 1; omega
theorem ctk_rm (P : Nat → Bool) (p : Nat) : ∀ n, p ≤ n → ctk (fun k => P (if k < p then k else k + 1)) n + (if P p then 1 else 0) = ctk P (n + 1) := by
  intro n
  induction n with
  | zero =>
    intro h
    have : p = 0 := by omega
    subst this
    simp [ctk]
  | succ n ih =>
    intro h
    by_cases e : p = n + 1
    · subst e
      have : ctk (fun k => P (if k < n + 1 then k else k + 1)) (n + 1) = ctk P (n + 1) := ctk_congr (fun k hk => by rw [if_pos hk])
      rw [this]; rfl
    · have h2 := ih (by omega)
      have e1 : ctk (fun k => P (if k < p then k else k + 1)) (n + 1) = ctk (fun k => P (if k < p then k else k + 1)) n + (if P (if n < p then n else n + 1) then 1 else 0) := rfl
      have e2 : ctk P (n + 1 + 1) = ctk P (n + 1) + (if P (n + 1) then 1 else 0) := rfl
      have e3 : (if n < p then n else n + 1) = n + 1 := if_neg (by omega)
      rw [e1, e2, ← h2, e3]
      omega
theorem sold_rm (h16 : g 3 ≤ 16) (h3 : (p : Int) < g 3) (c t h : Int) : sold (gRm g p) c t h ≤ sold g c t h := by
  have e0 : gRm g p 3 = g 3 - 1 := by unfold gRm; rw [if_pos rfl]
  unfold sold
  rw [e0]
  have q := ctk_rm (fun k => decide (gt g k 1 = c ∧ gt g k 2 = t ∧ gt g k 3 ≤ h ∧ h < gt g k 4)) p (g 3 - 1).toNat (by omega)
  rw [show (g 3).toNat = (g 3 - 1).toNat + 1 by omega, ← q]
  have e : ctk (fun k => decide (gt (gRm g p) k 1 = c ∧ gt (gRm g p) k 2 = t ∧ gt (gRm g p) k 3 ≤ h ∧ h < gt (gRm g p) k 4)) (g 3 - 1).toNat = ctk (fun k => decide (gt g (if k < p then k else k + 1) 1 = c ∧ gt g (if k < p then k else k + 1) 2 = t ∧ gt g (if k < p then k else k + 1) 3 ≤ h ∧ h < gt g (if k < p then k else k + 1) 4)) (g 3 - 1).toNat := ctk_congr (fun k hk => by
    rw [gRm_t h3 (by omega) (by decide), gRm_t h3 (by omega) (by decide), gRm_t h3 (by omega) (by decide), gRm_t h3 (by omega) (by decide)])
  rw [e]
  split <;> omega
theorem gRm_ok (G : GI K g) (h3 : (p : Int) < g 3) : GI K (gRm g p) := by
  have h16 := G.tk
  have e0 : gRm g p 3 = g 3 - 1 := by unfold gRm; rw [if_pos rfl]
  have en : ∀ i, i < 212 → i ≠ 3 → gRm g p i = g i := fun i h1 h2 => gRm_lo h2 (by omega) h3
  apply GI.mk
  · rw [en _ (by decide) (by decide)]; exact G.st
  · rw [en _ (by decide) (by decide)]; exact G.wk
  · rw [en _ (by decide) (by decide)]; exact G.ln
  · rw [e0]; omega
  · rw [en _ (by decide) (by decide)]; exact G.nx
  · rw [en _ (by decide) (by decide)]; exact G.mi
  · rw [en _ (by decide) (by decide)]; exact G.ra
  · rw [en _ (by decide) (by decide)]; exact G.ic
  · rw [en _ (by decide) (by decide)]; exact G.rf
  · rw [en _ (by decide) (by decide)]; exact G.us
  · exact G.trC (fun i h1 h2 => en _ (by omega) (by omega))
  · exact G.clC (fun i h1 h2 => en _ (by omega) (by omega))
  · exact G.coC (fun i h1 h2 => en _ (by omega) (by omega)) (by rw [en _ (by decide) (by decide)]; omega)
  · exact G.wlC (fun i h1 h2 => en _ (by omega) (by omega))
  · exact G.liC (fun i h1 h2 => en _ (by omega) (by omega)) (by rw [en _ (by decide) (by decide)]; omega) (en _ (by decide) (by decide))
  · intro k hk
    rw [e0] at hk
    have T := G.ti (if k < p then k else k + 1) (by split <;> omega)
    have e : ∀ w, w < 6 → gt (gRm g p) k w = gt g (if k < p then k else k + 1) w := fun w hw => gRm_t h3 hk (by omega)
    apply GT.mk
    · rw [e 0 (by decide), en 4 (by decide) (by decide)]; exact T.id
    · rw [e 1 (by decide), en 2 (by decide) (by decide)]; exact T.ln
    · rw [e 2 (by decide)]; exact T.tr
    · rw [e 3 (by decide), e 4 (by decide)]; exact T.fr
    · rw [e 4 (by decide), e 1 (by decide)]
      have h1 := T.ln
      have h2 := G.ln
      have e5 : gl (gRm g p) (gt g (if k < p then k else k + 1) 1).toNat 5 = gl g (gt g (if k < p then k else k + 1) 1).toNat 5 := en _ (by omega) (by omega)
      rw [e5]; exact T.to
    · rw [e 5 (by decide)]; exact T.pr
  · intro c hc t h
    have e4 : gl (gRm g p) c 4 = gl g c 4 := en _ (by omega) (by omega)
    rw [e4]
    exact Int.le_trans (sold_rm h16.2 h3 c t h) (G.cap c hc t h)
/-- Tickets.drop -/
theorem c_drop (h : NR b σ g) (G : GI K g) (R : RW b σ) (h3 : (p : Int) < g 3) (hN : 16 < N) : ∃ σ', f_X11_drop N σ (b + 5) p = some σ' ∧ NR b σ' (gRm g p) ∧ (∀ r, r ≠ b + 5 → r ≠ b + 6 → σ' r = σ r) ∧ RW b σ' := by
  have h16 := G.tk
  have hl := G.ln
  have hs0 := G.st
  obtain ⟨n, hn⟩ := Int.eq_ofNat_of_zero_le (show 0 ≤ g 3 - 1 by omega)
  have e0 : gRm g p 3 = g 3 - 1 := by unfold gRm; rw [if_pos rfl]
  have en : ∀ i, i < 212 → i ≠ 3 → gRm g p i = g i := fun i h1 h2 => gRm_lo h2 (by omega) h3
  unfold f_X11_drop
  rw [if_pos (by omega), h.tk, if_pos (by unfold rng; omega), bl_eq]
  have n56 : b + 5 + 1 ≠ b + 5 := by omega
  -- the loop
  obtain ⟨s', ⟨p1, p2⟩, e⟩ := lp_inv (fun n a k => f_X11_drop_19 (b + 5) (σ (b + 5 + 1) (p : Int).toNat).toNat n a ((p : Int) + k)) id (fun k a => (∀ r, r ≠ b + 6 → a r = upm σ (b + 5) 1 (g 3 - 1) r) ∧ ∀ j, j < 16 → a (b + 6) j = if p ≤ j ∧ j < p + k then σ (b + 6) (j + 1) else σ (b + 6) j) (n - p) (fun m a hP => by
      show f_X11_drop_19 (b + 5) _ (m + 1) a ((p : Int) + ((n - p : Nat) : Int)) = _
      rw [f_X11_drop_19, hP.1 (b + 5) (by omega), upm_same, if_pos (by omega)]; rfl) (fun m k a hk hP => by
      obtain ⟨q1, q2⟩ := hP
      obtain ⟨m1, m2, m3⟩ := R.1 (p + k + 1) (by omega)
      refine ⟨upm a (b + 6) (p + k) (σ (b + 6) (p + k + 1)), ⟨fun r hr => by rw [upm_role hr]; exact q1 r hr, fun j hj => ?_⟩, ?_⟩
      · by_cases q : j = p + k
        · subst q; rw [upm_same, if_pos (by omega)]
        · rw [upm_cell q, q2 j hj]
          by_cases q3 : p ≤ j ∧ j < p + k
          · rw [if_pos q3, if_pos (by omega)]
          · rw [if_neg q3, if_neg (by omega)]
      · show f_X11_drop_19 (b + 5) _ (m + 1) a ((p : Int) + (k : Int)) = f_X11_drop_19 (b + 5) _ m _ ((p : Int) + ((k + 1 : Nat) : Int))
        rw [f_X11_drop_19, q1 (b + 5) (by omega), upm_same, if_neg (by omega), if_pos (by omega), if_pos (by omega), bl_eq, show ((p : Int) + k).toNat = p + k by omega, show ((p : Int) + k + 1).toNat = p + k + 1 by omega]
        have e6 : ((a (b + 5 + 1) (p + k + 1)).toNat : Int) = σ (b + 6) (p + k + 1) := by
          show ((a (b + 6) (p + k + 1)).toNat : Int) = _
          rw [q2 _ (by omega), if_neg (by omega), m3]; omega
        rw [e6, show (p : Int) + ((k + 1 : Nat) : Int) = (p : Int) + k + 1 by omega]) N 0 (upm σ (b + 5) 1 (g 3 - 1)) (by omega) (by omega) ⟨fun _ _ => rfl, fun j hj => by rw [upm_role (by omega), if_neg (by omega)]⟩
  have e1 : f_X11_drop_19 (b + 5) (σ (b + 5 + 1) (p : Int).toNat).toNat N (upm σ (b + 5) 1 (g 3 - 1)) (p : Int) = some s' := by
    have : (p : Int) + ((0 : Nat) : Int) = (p : Int) := by omega
    rw [this] at e; exact e
  rw [e1, Option.bind_some, p1 (b + 5) (by omega), upm_same, if_pos (by omega), bl_eq]
  obtain ⟨m1, m2, m3⟩ := R.1 p (by omega)
  have ep : ((σ (b + 5 + 1) (p : Int).toNat).toNat : Int) = σ (b + 6) p := by
    show ((σ (b + 6) p).toNat : Int) = _
    rw [m3]; omega
  rw [ep, hn, Int.toNat_natCast]
  -- the new row
  have row : ∀ j, j < 16 → upm s' (b + 5 + 1) n (σ (b + 6) p) (b + 6) j = if j = n then σ (b + 6) p else if p ≤ j ∧ j < n then σ (b + 6) (j + 1) else σ (b + 6) j := fun j hj => by
    show upm s' (b + 6) n (σ (b + 6) p) (b + 6) j = _
    by_cases q : j = n
    · subst q; rw [upm_same, if_pos rfl]
    · rw [upm_cell q, if_neg q, p2 j hj, show p + (n - p) = n by omega]
  have oth : ∀ r, r ≠ b + 5 → r ≠ b + 6 → upm s' (b + 5 + 1) n (σ (b + 6) p) r = σ r := fun r h1 h2 => by
    rw [upm_role h2, p1 r h2, upm_role h1]
  have b5 : ∀ i, i ≠ 1 → upm s' (b + 5 + 1) n (σ (b + 6) p) (b + 5) i = σ (b + 5) i := fun i hi => by
    rw [upm_role (by omega), p1 _ (by omega), upm_cell hi]
  have tk : ∀ k, k < 16 → tkr b (upm s' (b + 5 + 1) n (σ (b + 6) p)) k = if k = n then tkr b σ p else if p ≤ k ∧ k < n then tkr b σ (k + 1) else tkr b σ k := fun k hk => by
    unfold tkr
    rw [row k hk]
    split
    · rfl
    · split <;> rfl
  refine ⟨_, rfl, ?_, oth, ?_⟩
  · apply NR.mk
    · rw [oth b (by omega) (by omega), en _ (by decide) (by decide)]; exact h.mi
    · rw [oth b (by omega) (by omega), en _ (by decide) (by decide)]; exact h.ra
    · rw [oth b (by omega) (by omega), en _ (by decide) (by decide)]; exact h.st
    · rw [oth b (by omega) (by omega), en _ (by decide) (by decide)]; exact h.wk
    · rw [oth b (by omega) (by omega), en _ (by decide) (by decide)]; exact h.ln
    · intro i hi
      rw [en 0 (by decide) (by decide)] at hi
      rw [oth _ (by omega) (by omega), en _ (by omega) (by omega)]; exact h.tr i hi
    · intro i hi
      rw [en 0 (by decide) (by decide)] at hi
      rw [oth _ (by omega) (by omega), en _ (by omega) (by omega)]; exact h.cl i hi
    · intro x y hx hy
      rw [oth _ (by omega) (by omega), en _ (by omega) (by omega)]; exact h.wl x y hx hy
    · exact h.liC G (fun r h1 h2 => oth r (by omega) (by omega)) (fun i h1 h2 => en i (by omega) (by omega)) (en _ (by decide) (by decide))
    · exact h.rgC G (fun r h1 h2 => oth r (by omega) (by omega)) (fun i h1 h2 => en i (by omega) (by omega)) (en _ (by decide) (by decide))
    · rw [upm_role (by omega), p1 _ (by omega), upm_same, e0]
    · rw [b5 _ (by decide), en _ (by decide) (by decide)]; exact h.nx
    · rw [b5 _ (by decide), en _ (by decide) (by decide)]; exact h.ic
    · rw [b5 _ (by decide), en _ (by decide) (by decide)]; exact h.rf
    · rw [b5 _ (by decide), en _ (by decide) (by decide)]; exact h.us
    · intro k hk v hv
      rw [e0] at hk
      rw [tk k (by omega), if_neg (by omega), gRm_t h3 hk (by omega)]
      by_cases q : k < p
      · rw [if_neg (by omega), if_pos q]
        have r := tkr_ge R (k := k) (by omega)
        rw [oth _ (by omega) (by omega)]; exact h.ti k (by omega) v hv
      · rw [if_pos (by omega), if_neg q]
        have r := tkr_ge R (k := k + 1) (by omega)
        rw [oth _ (by omega) (by omega)]; exact h.ti (k + 1) (by omega) v hv
  · have idx : ∀ j, j < 16 → ∃ i, i < 16 ∧ upm s' (b + 5 + 1) n (σ (b + 6) p) (b + 6) j = σ (b + 6) i ∧ i = (if j = n then p else if p ≤ j ∧ j < n then j + 1 else j) := fun j hj => by
      refine ⟨if j = n then p else if p ≤ j ∧ j < n then j + 1 else j, ?_, ?_, rfl⟩
      · split
        · omega
        · split <;> omega
      · rw [row j hj]
        split
        · rfl
        · split <;> rfl
    constructor
    · intro k hk
      obtain ⟨i, i1, i2, -⟩ := idx k hk
      rw [i2]; exact R.1 i i1
    · intro j k hj hk he
      obtain ⟨i, i1, i2, i3⟩ := idx j hj
      obtain ⟨i', i1', i2', i3'⟩ := idx k hk
      rw [i2, i2'] at he
      have := R.2 i i' i1 i1' he
      rw [i3, i3'] at this
      revert this
      repeat' split
      all_goals omega
/-- removeTicket -/
theorem m_remove (G : GI K (μ 1)) (h3 : (p : Int) < μ 1 3) (hN : 340 < N) : ∃ μ', f_X13_removeTicket N μ p = some μ' ∧ MS μ μ' (gRm (μ 1) p) := by
  have h16 := G.tk
  obtain ⟨n, hn⟩ := Int.eq_ofNat_of_zero_le (show 0 ≤ μ 1 3 - 1 by omega)
  unfold f_X13_removeTicket
  rw [if_pos (by unfold rng; omega), bl_eq, bl_eq, if_pos (by unfold rng; omega)]
  obtain ⟨s', ⟨p1, p2⟩, e⟩ := lp_inv (fun m a k => f_X13_removeTicket_19 m a (212 + 8 * (p : Int) + k)) id (fun k a => (∀ r, r ≠ 1 → a r = μ r) ∧ ∀ i, a 1 i = if i = 3 then μ 1 3 - 1 else if 212 + 8 * p ≤ i ∧ i < 212 + 8 * p + k then μ 1 (i + 8) else μ 1 i) (8 * (n - p)) (fun m a hP => by
      show f_X13_removeTicket_19 (m + 1) a (212 + 8 * (p : Int) + ((8 * (n - p) : Nat) : Int)) = _
      rw [f_X13_removeTicket_19, hP.2 3, if_pos rfl, if_pos (by unfold rng; omega), if_pos (by omega)]; rfl) (fun m k a hk hP => by
      obtain ⟨q1, q2⟩ := hP
      refine ⟨upm a 1 (212 + 8 * p + k) (μ 1 (212 + 8 * p + k + 8)), ⟨fun r hr => by rw [upm_role hr]; exact q1 r hr, fun i => ?_⟩, ?_⟩
      · by_cases q : i = 212 + 8 * p + k
        · subst q; rw [upm_same, if_neg (by omega), if_pos (by omega)]
        · rw [upm_cell q, q2 i]
          repeat' split
          all_goals first | rfl | omega
      · show f_X13_removeTicket_19 (m + 1) a (212 + 8 * (p : Int) + (k : Int)) = f_X13_removeTicket_19 m _ (212 + 8 * (p : Int) + ((k + 1 : Nat) : Int))
        rw [f_X13_removeTicket_19, q2 3, if_pos rfl, if_pos (by unfold rng; omega), if_neg (by omega), if_pos (by omega), if_pos (by omega), bl_eq, show (212 + 8 * (p : Int) + k).toNat = 212 + 8 * p + k by omega, show (212 + 8 * (p : Int) + k + 8).toNat = 212 + 8 * p + k + 8 by omega, q2 (212 + 8 * p + k + 8), if_neg (by omega), if_neg (by omega), show 212 + 8 * (p : Int) + ((k + 1 : Nat) : Int) = 212 + 8 * (p : Int) + k + 1 by omega]) N 0 (upm μ 1 3 (μ 1 3 - 1)) (by omega) (by omega) ⟨fun r hr => upm_role hr, fun i => by
        by_cases q : i = 3
        · subst q; rw [upm_same, if_pos rfl]
        · rw [upm_cell q, if_neg q, if_neg (by omega)]⟩
  have e1 : f_X13_removeTicket_19 N (upm μ 1 3 (μ 1 3 - 1)) (212 + 8 * (p : Int)) = some s' := by
    have : 212 + 8 * (p : Int) + ((0 : Nat) : Int) = 212 + 8 * (p : Int) := by omega
    rw [this] at e; exact e
  rw [e1, Option.bind_some]
  obtain ⟨t', ⟨t1, t2⟩, f⟩ := lp_inv (fun m a k => f_X13_removeTicket_59 m a k) id (fun k a => (∀ r, r ≠ 1 → a r = μ r) ∧ ∀ i, a 1 i = if 212 + 8 * n ≤ i ∧ i < 212 + 8 * n + k then 0 else s' 1 i) 8 (fun m a hP => by
      show f_X13_removeTicket_59 (m + 1) a ((8 : Nat) : Int) = _
      rw [f_X13_removeTicket_59, if_pos (by omega)]; rfl) (fun m k a hk hP => by
      obtain ⟨q1, q2⟩ := hP
      have a3 : a 1 3 = n := by rw [q2, if_neg (by omega), p2, if_pos rfl]; exact hn
      refine ⟨upm a 1 (212 + 8 * n + k) 0, ⟨fun r hr => by rw [upm_role hr]; exact q1 r hr, fun i => ?_⟩, ?_⟩
      · by_cases q : i = 212 + 8 * n + k
        · subst q; rw [upm_same, if_pos (by omega)]
        · rw [upm_cell q, q2 i]
          repeat' split
          all_goals first | rfl | omega
      · rw [f_X13_removeTicket_59, if_neg (by omega), a3, if_pos (by omega), bl_eq, show (212 + 8 * (n : Int) + k).toNat = 212 + 8 * n + k by omega]; rfl) N 0 s' (by omega) (by omega) ⟨p1, fun i => by rw [if_neg (by omega)]⟩
  rw [show f_X13_removeTicket_59 N s' 0 = some t' from f, Option.bind_some]
  refine ⟨t', rfl, t1, ?_⟩
  funext i
  unfold gRm
  rw [t2, p2, hn, Int.toNat_natCast]
  repeat' split
  all_goals first | rfl | omega
end RM
