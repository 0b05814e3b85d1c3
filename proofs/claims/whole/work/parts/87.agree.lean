/-! agreement of class and model, part 87 -/
/-! minutes pass -/
abbrev Tk : Type := Int × Int × Int × Int × Int × Int
def tup (g : Ga) (k : Nat) : Tk := (gt g k 0, gt g k 1, gt g k 2, gt g k 3, gt g k 4, gt g k 5)
def tkl (g : Ga) : List Tk := (List.range (g 3).toNat).map (tup g)
def due (g : Ga) (T : Tk) : Int := whn g T.2.1.toNat T.2.2.1 T.2.2.2.2.1
def sc (g g' : Ga) : Prop := ∀ i, i < 212 → i ≠ 3 → g' i = g i
section AD
variable {b : Nat} {σ μ : Sm} {g g' : Ga} {K : Int} {N p : Nat}
theorem tkl_len : (tkl g).length = (g 3).toNat := by unfold tkl; simp
theorem tkl_get {k : Nat} (h : k < (g 3).toNat) : (tkl g)[k]? = some (tup g k) := by unfold tkl; simp [h]
theorem tkl_none {k : Nat} (h : (g 3).toNat ≤ k) : (tkl g)[k]? = none := by
  rw [List.getElem?_eq_none_iff, tkl_len]; exact h
theorem tkl_ext (h3 : g' 3 = g 3) (h : ∀ k : Nat, (k : Int) < g 3 → ∀ v, v < 6 → gt g' k v = gt g k v) : tkl g' = tkl g := by
  unfold tkl
  rw [h3]
  apply List.map_congr_left
  intro k hk
  have hk := List.mem_range.mp hk
  unfold tup
  rw [h k (by omega) 0 (by decide), h k (by omega) 1 (by decide), h k (by omega) 2 (by decide), h k (by omega) 3 (by decide), h k (by omega) 4 (by decide), h k (by omega) 5 (by decide)]
theorem tkl_inj (h : tkl g' = tkl g) (h0 : 0 ≤ g 3) (h0' : 0 ≤ g' 3) : g' 3 = g 3 ∧ ∀ k : Nat, (k : Int) < g 3 → ∀ v, v < 6 → gt g' k v = gt g k v := by
  have hl := congrArg List.length h
  rw [tkl_len, tkl_len] at hl
  have e3 : g' 3 = g 3 := by omega
  refine ⟨e3, fun k hk v hv => ?_⟩
  have q : (tkl g')[k]? = (tkl g)[k]? := congrArg (fun l => l[k]?) h
  rw [tkl_get (by omega), tkl_get (by omega)] at q
  have q2 := Option.some.inj q
  unfold tup at q2
  simp only [Prod.mk.injEq] at q2
  rcases (by omega : v = 0 ∨ v = 1 ∨ v = 2 ∨ v = 3 ∨ v = 4 ∨ v = 5) with rfl | rfl | rfl | rfl | rfl | rfl
  · exact q2.1
  · exact q2.2.1
  · exact q2.2.2.1
  · exact q2.2.2.2.1
  · exact q2.2.2.2.2.1
  · exact q2.2.2.2.2.2
theorem tkl_rm (h3 : (p : Int) < g 3) : tkl (gRm g p) = (tkl g).eraseIdx p := by
  have e0 : gRm g p 3 = g 3 - 1 := by unfold gRm; rw [if_pos rfl]
  apply List.ext_getElem?
  intro k
  rw [List.getElem?_eraseIdx]
  by_cases hk : (k : Int) < g 3 - 1
  · rw [tkl_get (by omega)]
    have e : tup (gRm g p) k = tup g (if k < p then k else k + 1) := by
      unfold tup
      rw [gRm_t h3 hk (by decide), gRm_t h3 hk (by decide), gRm_t h3 hk (by decide), gRm_t h3 hk (by decide), gRm_t h3 hk (by decide), gRm_t h3 hk (by decide)]
    rw [e]
    by_cases q : k < p
    · rw [if_pos q, if_pos q, tkl_get (by omega)]
    · rw [if_neg q, if_neg q, tkl_get (by omega)]
  · rw [tkl_none (by omega)]
    by_cases q : k < p
    · omega
    · rw [if_neg q, tkl_none (by omega)]
theorem sc.refl (g : Ga) : sc g g := fun _ _ _ => rfl
theorem sc.rm (h : sc g g') (h3 : (p : Int) < g' 3) : sc g (gRm g' p) := fun i h1 h2 => by rw [gRm_lo h2 (by omega) h3]; exact h i h1 h2
theorem due_sc (h : sc g g') {T : Tk} (hT : T.2.1.toNat < 5) : due g' T = due g T := by
  unfold due whn hopm gl
  rw [h 6 (by decide) (by decide), h _ (by omega) (by omega), h _ (by omega) (by omega), h _ (by omega) (by omega), h _ (by omega) (by omega)]
/-- a ticket of g: its line, and when it is used -/
theorem tk_at (G : GI K g) {k : Nat} (hk : (k : Int) < g 3) : ∃ c : Nat, gt g k 1 = (c : Int) ∧ (c : Int) < g 2 ∧ c < 5 ∧ (0 ≤ gt g k 2 ∧ gt g k 2 ≤ 10000000) ∧ (0 ≤ gt g k 4 ∧ gt g k 4 ≤ 6) ∧ due g (tup g k) = whn g c (gt g k 2) (gt g k 4) := by
  have T := G.ti k hk
  have h1 := T.ln
  have h2 := G.ln
  obtain ⟨c, hc⟩ := Int.eq_ofNat_of_zero_le h1.1
  have hc5 : c < 5 := by omega
  have sz := (G.li c hc5).sz
  have to := T.to
  rw [hc, Int.toNat_natCast] at to
  have fr := T.fr
  have tr := T.tr
  refine ⟨c, hc, by omega, hc5, by omega, by omega, ?_⟩
  unfold due tup
  dsimp only
  rw [hc, Int.toNat_natCast]
theorem c_pass_loop (m0 : Int) (L : List Tk) (g1 : Ga) (hN : 16 < N) (Q : Tk → Bool) (hQ : ∀ T, Q T = decide (m0 < due g1 T)) (hm : g1 5 = m0) :
    ∀ (j n : Nat) (s : Sm) (gc : Ga) (D : List Tk) (u : Int), j < n → j ≤ L.length → L.length ≤ 16 → sc g1 gc → GI K gc → NR b s gc → RW b s → D = (L.drop j).filter Q → tkl gc = L.take j ++ D → u = (L.length : Int) - j - D.length → 0 ≤ u →
    ∃ s' gc' u', f_X8_pass_22 N b n s u ((j : Int) - 1) = some (s', u') ∧ sc g1 gc' ∧ GI K gc' ∧ NR b s' gc' ∧ RW b s' ∧ offN b s s' ∧ tkl gc' = L.filter Q ∧ u' = (L.length : Int) - (L.filter Q).length := by
  intro j
  induction j with
  | zero =>
    intro n s gc D u hn hj hL h1 h2 h3 h4 h5 h6 h7 h8
    obtain ⟨n, rfl⟩ : ∃ k, n = k + 1 := ⟨n - 1, by omega⟩
    rw [List.drop_zero] at h5
    rw [List.take_zero, List.nil_append] at h6
    refine ⟨s, gc, u, ?_, h1, h2, h3, h4, offN.refl b s, by rw [h6, h5], by rw [h7, h5]; omega⟩
    rw [f_X8_pass_22, if_pos (by omega)]
  | succ j ih =>
    intro n s gc D u hn hj hL h1 h2 h3 h4 h5 h6 h7 h8
    obtain ⟨n, rfl⟩ : ∃ k, n = k + 1 := ⟨n - 1, by omega⟩
    have hlen := congrArg List.length h6
    rw [tkl_len, List.length_append, List.length_take] at hlen
    have h3c : ((j : Nat) : Int) < gc 3 := by omega
    have hx : L[j]? = some (tup gc j) := by
      have : (tkl gc)[j]? = (L.take (j + 1) ++ D)[j]? := congrArg (fun l => l[j]?) h6
      rw [tkl_get (by omega), List.getElem?_append_left (by rw [List.length_take]; omega), List.getElem?_take, if_pos (by omega)] at this
      exact this.symm
    have hj2 : j < L.length := by omega
    have hx2 : L[j] = tup gc j := by
      rw [List.getElem?_eq_getElem hj2] at hx; exact Option.some.inj hx
    have hd : L.drop j = tup gc j :: L.drop (j + 1) := by rw [List.drop_eq_getElem_cons hj2, hx2]
    have ht : L.take (j + 1) = L.take j ++ [tup gc j] := by rw [List.take_add_one, hx]; rfl
    obtain ⟨c, c1, c2, c3, c4, c5, c6⟩ := tk_at h2 h3c
    have cd : due gc (tup gc j) = due g1 (tup gc j) := due_sc h1 (by unfold tup; dsimp only; rw [c1, Int.toNat_natCast]; exact c3)
    have k5 : gc 5 = m0 := by rw [h1 5 (by decide) (by decide), hm]
    have ti := fun v hv => h3.ti j h3c v hv
    have rr := tkr_ge h4 (k := j) (by omega)
    rw [show ((j + 1 : Nat) : Int) - 1 = (j : Int) by omega, f_X8_pass_22, if_neg (by omega), if_pos (by omega)]
    have et : (s (b + 6) (j : Int).toNat).toNat = tkr b s j := rfl
    rw [et, ti 1 (by decide), ti 2 (by decide), ti 4 (by decide), c1, if_pos (by omega), Int.toNat_natCast, h3.ra, c_whenAt h3 h2 c2 c4 c5, Option.bind_some, h3.mi, k5, ← c6, cd]
    have hQj : Q (tup gc j) = decide (m0 < due g1 (tup gc j)) := hQ _
    have hD : (L.drop j).filter Q = if Q (tup gc j) = true then tup gc j :: D else D := by
      rw [hd, List.filter_cons, h5]
    by_cases q : m0 < due g1 (tup gc j)
    · have q2 : Q (tup gc j) = true := by rw [hQj]; simpa using q
      rw [if_pos q2] at hD
      rw [if_pos q, if_pos (by unfold rng; omega), show (j : Int) + -1 = (j : Int) - 1 by omega]
      refine ih n s gc (tup gc j :: D) u (by omega) (by omega) hL h1 h2 h3 h4 hD.symm ?_ ?_ h8
      · rw [h6, ht, List.append_assoc]; rfl
      · rw [h7, List.length_cons]; omega
    · have q2 : ¬ Q (tup gc j) = true := by rw [hQj]; simpa using q
      rw [if_neg q2] at hD
      obtain ⟨s', d1, d2, d3, d4⟩ := c_drop (p := j) h3 h2 h4 h3c hN
      rw [if_neg q, d1, Option.bind_some, if_pos (by unfold rng; omega), if_pos (by unfold rng; omega), show (j : Int) + -1 = (j : Int) - 1 by omega]
      obtain ⟨s2, gc2, u2, r1, r2, r3, r4, r5, r6, r7, r8⟩ := ih n s' (gRm gc j) D (u + 1) (by omega) (by omega) hL (h1.rm h3c) (gRm_ok h2 h3c) d2 d4 hD.symm (by
        rw [tkl_rm h3c, h6, ht, List.append_assoc, List.eraseIdx_append_of_length_le (by rw [List.length_take]; omega), List.length_take, show j - min j L.length = 0 by omega]; rfl) (by rw [h7]; omega) (by omega)
      exact ⟨s2, gc2, u2, r1, r2, r3, r4, r5, (show offN b s s' from fun r hr => d3 r (by omega) (by omega)).trans r6, r7, r8⟩
theorem m_passes_loop (m0 : Int) (L : List Tk) (g1 : Ga) (hN : 340 < N) (Q : Tk → Bool) (hQ : ∀ T, Q T = decide (m0 < due g1 T)) (hm : g1 5 = m0) :
    ∀ (d n i : Nat) (s : Sm) (A : List Tk) (u : Int), d < n → i + d = L.length → L.length ≤ 16 → sc g1 (s 1) → GI K (s 1) → A = (L.take i).filter Q → tkl (s 1) = A ++ L.drop i → u = (i : Int) - A.length → 0 ≤ u →
    ∃ s' u', f_X13_passes_14 N n s u (A.length : Int) = some (s', u') ∧ (∀ r, r ≠ 1 → s' r = s r) ∧ sc g1 (s' 1) ∧ GI K (s' 1) ∧ tkl (s' 1) = L.filter Q ∧ u' = (L.length : Int) - (L.filter Q).length := by
  intro d
  induction d with
  | zero =>
    intro n i s A u hn hi hL h1 h2 h5 h6 h7 h8
    obtain ⟨n, rfl⟩ : ∃ k, n = k + 1 := ⟨n - 1, by omega⟩
    have hi2 : i = L.length := by omega
    subst hi2
    rw [List.drop_length, List.append_nil] at h6
    rw [List.take_length] at h5
    have hlen := congrArg List.length h6
    rw [tkl_len] at hlen
    have := h2.tk
    refine ⟨s, u, ?_, fun _ _ => rfl, h1, h2, by rw [h6, h5], by rw [h7, h5]⟩
    rw [f_X13_passes_14, if_pos (by omega)]
  | succ d ih =>
    intro n i s A u hn hi hL h1 h2 h5 h6 h7 h8
    obtain ⟨n, rfl⟩ : ∃ k, n = k + 1 := ⟨n - 1, by omega⟩
    have hi2 : i < L.length := by omega
    have hlen := congrArg List.length h6
    rw [tkl_len, List.length_append, List.length_drop] at hlen
    have h3c : ((A.length : Nat) : Int) < s 1 3 := by omega
    have hx : L[i]? = some (tup (s 1) A.length) := by
      have : (tkl (s 1))[A.length]? = (A ++ L.drop i)[A.length]? := congrArg (fun l => l[A.length]?) h6
      rw [tkl_get (by omega), List.getElem?_append_right (Nat.le_refl _), List.getElem?_drop, show i + (A.length - A.length) = i by omega] at this
      exact this.symm
    have hx2 : L[i] = tup (s 1) A.length := by
      rw [List.getElem?_eq_getElem hi2] at hx; exact Option.some.inj hx
    have hd : L.drop i = tup (s 1) A.length :: L.drop (i + 1) := by rw [List.drop_eq_getElem_cons hi2, hx2]
    have ht : L.take (i + 1) = L.take i ++ [tup (s 1) A.length] := by rw [List.take_add_one, hx]; rfl
    have h16 := h2.tk
    obtain ⟨c, c1, c2, c3, c4, c5, c6⟩ := tk_at h2 h3c
    have cd : due (s 1) (tup (s 1) A.length) = due g1 (tup (s 1) A.length) := due_sc h1 (by unfold tup; dsimp only; rw [c1, Int.toNat_natCast]; exact c3)
    have k5 : s 1 5 = m0 := by rw [h1 5 (by decide) (by decide), hm]
    rw [f_X13_passes_14, if_neg (by omega), m_t1 (by omega), m_t2 (by omega), m_t4 (by omega), Option.bind_some, Option.bind_some, Option.bind_some, c1, m_minuteOf h2 c3 c4 c5, Option.bind_some, k5, ← c6, cd]
    have hQj : Q (tup (s 1) A.length) = decide (m0 < due g1 (tup (s 1) A.length)) := hQ _
    have hA : (L.take (i + 1)).filter Q = if Q (tup (s 1) A.length) = true then A ++ [tup (s 1) A.length] else A := by
      rw [ht, List.filter_append, ← h5, List.filter_cons, List.filter_nil]
      split
      · rfl
      · rw [List.append_nil]
    by_cases q : m0 < due g1 (tup (s 1) A.length)
    · have q2 : Q (tup (s 1) A.length) = true := by rw [hQj]; simpa using q
      rw [if_pos q2] at hA
      rw [if_neg (by omega)]
      obtain ⟨s2, u2, r1, r2, r3, r4, r5, r6⟩ := ih n (i + 1) s (A ++ [tup (s 1) A.length]) u (by omega) (by omega) hL h1 h2 hA.symm (by rw [h6, hd, List.append_assoc]; rfl) (by rw [h7, List.length_append, List.length_singleton]; omega) h8
      rw [List.length_append, List.length_singleton] at r1
      exact ⟨s2, u2, r1, r2, r3, r4, r5, r6⟩
    · have q2 : ¬ Q (tup (s 1) A.length) = true := by rw [hQj]; simpa using q
      rw [if_neg q2] at hA
      obtain ⟨s', d1, d2⟩ := m_remove (p := A.length) h2 h3c hN
      rw [if_pos (by omega), d1, Option.bind_some, if_pos (by unfold rng; omega)]
      obtain ⟨s2, u2, r1, r2, r3, r4, r5, r6⟩ := ih n (i + 1) s' A (u + 1) (by omega) (by omega) hL (by rw [d2.2]; exact h1.rm h3c) (by rw [d2.2]; exact gRm_ok h2 h3c) hA.symm (by
        rw [d2.2, tkl_rm h3c, h6, hd, List.eraseIdx_append_of_length_le (Nat.le_refl _), show A.length - A.length = 0 by omega]; rfl) (by rw [h7]; omega) (by omega)
      exact ⟨s2, u2, r1, fun r hr => by rw [r2 r hr, d2.1 r hr], r3, r4, r5, r6⟩
theorem NR.teq (h : NR b σ g) (G : GI K g) (R : RW b σ) (e : ∀ i, i < 212 → g' i = g i) (et : ∀ k : Nat, (k : Int) < g 3 → ∀ v, v < 6 → gt g' k v = gt g k v) : NR b σ g' := by
  have h0 := G.st
  apply NR.mk
  · rw [e _ (by decide)]; exact h.mi
  · rw [e _ (by decide)]; exact h.ra
  · rw [e _ (by decide)]; exact h.st
  · rw [e _ (by decide)]; exact h.wk
  · rw [e _ (by decide)]; exact h.ln
  · intro i hi
    rw [e 0 (by decide)] at hi
    rw [e _ (by omega)]; exact h.tr i hi
  · intro i hi
    rw [e 0 (by decide)] at hi
    rw [e _ (by omega)]; exact h.cl i hi
  · intro x y hx hy
    rw [e _ (by omega)]; exact h.wl x y hx hy
  · exact h.liC G (fun _ _ _ => rfl) (fun i h1 h2 => e i (by omega)) (e _ (by decide))
  · exact h.rgC G (fun _ _ _ => rfl) (fun i h1 h2 => e i (by omega)) (e _ (by decide))
  · rw [e _ (by decide)]; exact h.tk
  · rw [e _ (by decide)]; exact h.nx
  · rw [e _ (by decide)]; exact h.ic
  · rw [e _ (by decide)]; exact h.rf
  · rw [e _ (by decide)]; exact h.us
  · intro k hk v hv
    rw [e 3 (by decide)] at hk
    rw [et k hk v hv]; exact h.ti k hk v hv
theorem GI.min (G : GI K g) (x y : Int) (hx : 0 ≤ x ∧ x ≤ 120 * (K + 1)) (hy : 0 ≤ y ∧ y ≤ 16 * (K + 1)) : GI (K + 1) (upf (upf g 5 x) 9 y) := by
  have G1 := G.mono (show K ≤ K + 1 by omega)
  have en : ∀ i, i ≠ 5 → i ≠ 9 → upf (upf g 5 x) 9 y i = g i := fun i h1 h2 => by rw [upf_ne h2, upf_ne h1]
  apply GI.mk
  · rw [en _ (by decide) (by decide)]; exact G1.st
  · rw [en _ (by decide) (by decide)]; exact G1.wk
  · rw [en _ (by decide) (by decide)]; exact G1.ln
  · rw [en _ (by decide) (by decide)]; exact G1.tk
  · rw [en _ (by decide) (by decide)]; exact G1.nx
  · rw [upf_ne (by decide), upf_eq]; exact hx
  · rw [en _ (by decide) (by decide)]; exact G1.ra
  · rw [en _ (by decide) (by decide)]; exact G1.ic
  · rw [en _ (by decide) (by decide)]; exact G1.rf
  · rw [upf_eq]; exact hy
  · exact G1.trC (fun i h1 h2 => en _ (by omega) (by omega))
  · exact G1.clC (fun i h1 h2 => en _ (by omega) (by omega))
  · exact G1.coC (fun i h1 h2 => en _ (by omega) (by omega)) (by rw [en _ (by decide) (by decide)]; omega)
  · exact G1.wlC (fun i h1 h2 => en _ (by omega) (by omega))
  · exact G1.liC (fun i h1 h2 => en _ (by omega) (by omega)) (by rw [en _ (by decide) (by decide)]; omega) (en _ (by decide) (by decide))
  · exact G1.tiC (fun i h1 h2 => en _ (by omega) (by omega)) (en _ (by decide) (by decide)) (by rw [en _ (by decide) (by decide)]; omega) (by rw [en _ (by decide) (by decide)]; omega) (fun c hc _ => en _ (by omega) (by omega))
  · exact G1.capC (fun i h1 h2 => en _ (by omega) (by omega)) (en _ (by decide) (by decide)) (fun c hc => by unfold gl; rw [en _ (by omega) (by omega)]; omega)
theorem GI.use (G1 : GI K g) (y : Int) (hy : 0 ≤ y ∧ y ≤ 16 * K) : GI K (upf g 9 y) := by
  have en : ∀ i, i ≠ 9 → upf g 9 y i = g i := fun i h1 => upf_ne h1
  apply GI.mk
  · rw [en _ (by decide)]; exact G1.st
  · rw [en _ (by decide)]; exact G1.wk
  · rw [en _ (by decide)]; exact G1.ln
  · rw [en _ (by decide)]; exact G1.tk
  · rw [en _ (by decide)]; exact G1.nx
  · rw [en _ (by decide)]; exact G1.mi
  · rw [en _ (by decide)]; exact G1.ra
  · rw [en _ (by decide)]; exact G1.ic
  · rw [en _ (by decide)]; exact G1.rf
  · rw [upf_eq]; exact hy
  · exact G1.trC (fun i h1 h2 => en _ (by omega))
  · exact G1.clC (fun i h1 h2 => en _ (by omega))
  · exact G1.coC (fun i h1 h2 => en _ (by omega)) (by rw [en _ (by decide)]; omega)
  · exact G1.wlC (fun i h1 h2 => en _ (by omega))
  · exact G1.liC (fun i h1 h2 => en _ (by omega)) (by rw [en _ (by decide)]; omega) (en _ (by decide))
  · exact G1.tiC (fun i h1 h2 => en _ (by omega)) (en _ (by decide)) (by rw [en _ (by decide)]; omega) (by rw [en _ (by decide)]; omega) (fun c hc _ => en _ (by omega))
  · exact G1.capC (fun i h1 h2 => en _ (by omega)) (en _ (by decide)) (fun c hc => by unfold gl; rw [en _ (by omega)]; omega)
theorem due_up (g : Ga) (i : Nat) (x : Int) (hi : i = 5 ∨ i = 9) (T : Tk) : due (upf g i x) T = due g T := by
  unfold due whn hopm gl
  rw [upf_ne (by omega), upf_ne (by omega), upf_ne (by omega), upf_ne (by omega), upf_ne (by omega)]
theorem tkl_up (g : Ga) (i : Nat) (x : Int) (hi : i < 212) (h3 : i ≠ 3) : tkl (upf g i x) = tkl g := tkl_ext (upf_ne (by omega)) (fun k hk v hv => gt_up hi)
/-- Network.pass -/
theorem c_pass (h : NR b σ g) (G : GI K g) (R : RW b σ) {m : Int} (hm : 1 ≤ m ∧ m ≤ 120) (hN : 16 < N) (hK : 0 ≤ K ∧ K ≤ 1000000) : ∃ σ' g', f_X8_pass N σ b m = some (σ', ((tkl g).length : Int) - ((tkl g).filter (fun T => g 5 + m < due g T)).length) ∧ NR b σ' g' ∧ GI (K + 1) g' ∧ offN b σ σ' ∧ RW b σ' ∧ tkl g' = (tkl g).filter (fun T => g 5 + m < due g T) ∧ ∀ i, i < 212 → i ≠ 3 → g' i = upf (upf g 5 (g 5 + m)) 9 (g 9 + (((tkl g).length : Int) - ((tkl g).filter (fun T => g 5 + m < due g T)).length)) i := by
  have hmi := G.mi
  have hus := G.us
  have h16 := G.tk
  have g1e : GI (K + 1) (upf g 5 (g 5 + m)) := (G.min (g 5 + m) (g 9) (by omega) (by omega)).eqv (fun i _ => by
    by_cases q : i = 9
    · subst q; rw [upf_eq, upf_ne (by decide)]
    · rw [upf_ne (i := 9) q])
  have n1 : NR b (upm σ b 0 (g 5 + m)) (upf g 5 (g 5 + m)) := by
    have h0 := G.st
    have en : ∀ i, i ≠ 5 → upf g 5 (g 5 + m) i = g i := fun i hi => upf_ne hi
    refine h.low G R (fun r h1 h2 => upm_role (by omega)) (fun i h1 h2 => en i (by omega)) ⟨en _ (by decide), en _ (by decide), en _ (by decide), en _ (by decide), en _ (by decide), en _ (by decide)⟩ ?_ ?_ ?_ ?_ ?_ (fun i hi => ?_) (fun i hi => ?_) (fun x y hx hy => ?_)
    · rw [upm_same, upf_eq]
    · rw [upm_cell (by decide), en _ (by decide)]; exact h.ra
    · rw [upm_cell (by decide), en _ (by decide)]; exact h.st
    · rw [upm_cell (by decide), en _ (by decide)]; exact h.wk
    · rw [upm_cell (by decide), en _ (by decide)]; exact h.ln
    · rw [en 0 (by decide)] at hi
      rw [upm_role (by omega), en _ (by omega)]; exact h.tr i hi
    · rw [en 0 (by decide)] at hi
      rw [upm_role (by omega), en _ (by omega)]; exact h.cl i hi
    · rw [upm_role (by omega), en _ (by omega)]; exact h.wl x y hx hy
  have R1 : RW b (upm σ b 0 (g 5 + m)) := R.same (upm_role (by omega))
  have hL : (tkl g).length = (g 3).toNat := tkl_len
  obtain ⟨s', gc, u, r1, r2, r3, r4, r5, r6, r7, r8⟩ := c_pass_loop (b := b) (K := K + 1) (g 5 + m) (tkl g) (upf g 5 (g 5 + m)) hN (fun T => decide (g 5 + m < due g T)) (fun T => by rw [due_up g 5 _ (Or.inl rfl)]) (upf_eq _ _ _) (tkl g).length N (upm σ b 0 (g 5 + m)) (upf g 5 (g 5 + m)) [] 0 (by omega) (Nat.le_refl _) (by omega) (sc.refl _) g1e n1 R1 (by rw [List.drop_length]; rfl) (by rw [tkl_up g 5 _ (by decide) (by decide), List.take_length, List.append_nil]) (by simp) (by omega)
  have hfl := List.length_filter_le (fun T => decide (g 5 + m < due g T)) (tkl g)
  have c9 : gc 9 = g 9 := by rw [r2 9 (by decide) (by decide), upf_ne (by decide)]
  have us : s' (b + 5) 5 = g 9 := by rw [r4.us, c9]
  have key : f_X8_pass N σ b m = some (upm s' (b + 5) 5 (g 9 + u), u) := by
    unfold f_X8_pass
    rw [h.mi, if_pos (by unfold rng; omega), bl_eq, bl_eq, upm_role (by omega), h.tk, if_pos (by unfold rng; omega), show g 3 - 1 = (((tkl g).length : Nat) : Int) - 1 by omega, r1, Option.bind_some]
    show (if rng (s' (b + 5) 5 + u) then bl (upm s' (b + 5) 5 (s' (b + 5) 5 + u)) (fun s41 => some (s41, u)) else none) = _
    rw [us, if_pos (by unfold rng; omega)]; rfl
  rw [key]
  refine ⟨_, upf gc 9 (g 9 + u), by rw [← r8], ?_, ?_, fun r hr => ?_, r5.same (upm_role (by omega)), ?_, fun i h1 h2 => ?_⟩
  · exact r4.acc r3 r5 5 9 _ (Or.inr (Or.inr ⟨rfl, rfl⟩))
  · exact r3.use _ (by omega)
  · rw [upm_role (by omega), r6 r hr, upm_role (by omega)]
  · rw [tkl_up gc 9 _ (by decide) (by decide)]; exact r7
  · by_cases q : i = 9
    · subst q; rw [upf_eq, upf_eq, r8]
    · rw [upf_ne q, upf_ne q]; exact r2 i h1 h2
/-- one minute of the model -/
theorem m_passes (G : GI K (μ 1)) (hN : 340 < N) (hK : 0 ≤ K ∧ K ≤ 1000000) (h5 : μ 1 5 + 1 ≤ 120 * K) (h9 : μ 1 9 + (tkl (μ 1)).length ≤ 16 * K) : ∃ μ', f_X13_passes N μ = some (μ', ((tkl (μ 1)).length : Int) - ((tkl (μ 1)).filter (fun T => μ 1 5 + 1 < due (μ 1) T)).length) ∧ (∀ r, r ≠ 1 → μ' r = μ r) ∧ GI K (μ' 1) ∧ tkl (μ' 1) = (tkl (μ 1)).filter (fun T => μ 1 5 + 1 < due (μ 1) T) ∧ ∀ i, i < 212 → i ≠ 3 → μ' 1 i = upf (upf (μ 1) 5 (μ 1 5 + 1)) 9 (μ 1 9 + (((tkl (μ 1)).length : Int) - ((tkl (μ 1)).filter (fun T => μ 1 5 + 1 < due (μ 1) T)).length)) i := by
  have hmi := G.mi
  have hus := G.us
  have h16 := G.tk
  have g1e : GI K (upf (μ 1) 5 (μ 1 5 + 1)) := by
    have en : ∀ i, i ≠ 5 → upf (μ 1) 5 (μ 1 5 + 1) i = μ 1 i := fun i h1 => upf_ne h1
    apply GI.mk
    · rw [en _ (by decide)]; exact G.st
    · rw [en _ (by decide)]; exact G.wk
    · rw [en _ (by decide)]; exact G.ln
    · rw [en _ (by decide)]; exact G.tk
    · rw [en _ (by decide)]; exact G.nx
    · rw [upf_eq]; omega
    · rw [en _ (by decide)]; exact G.ra
    · rw [en _ (by decide)]; exact G.ic
    · rw [en _ (by decide)]; exact G.rf
    · rw [en _ (by decide)]; exact G.us
    · exact G.trC (fun i h1 h2 => en _ (by omega))
    · exact G.clC (fun i h1 h2 => en _ (by omega))
    · exact G.coC (fun i h1 h2 => en _ (by omega)) (by rw [en _ (by decide)]; omega)
    · exact G.wlC (fun i h1 h2 => en _ (by omega))
    · exact G.liC (fun i h1 h2 => en _ (by omega)) (by rw [en _ (by decide)]; omega) (en _ (by decide))
    · exact G.tiC (fun i h1 h2 => en _ (by omega)) (en _ (by decide)) (by rw [en _ (by decide)]; omega) (by rw [en _ (by decide)]; omega) (fun c hc _ => en _ (by omega))
    · exact G.capC (fun i h1 h2 => en _ (by omega)) (en _ (by decide)) (fun c hc => by unfold gl; rw [en _ (by omega)]; omega)
  have hL : (tkl (μ 1)).length = (μ 1 3).toNat := tkl_len
  have e1 : upm μ 1 5 (μ 1 5 + 1) 1 = upf (μ 1) 5 (μ 1 5 + 1) := upm_upf _ _ _ _
  obtain ⟨s', u, r1, r2, r3, r4, r5, r6⟩ := m_passes_loop (K := K) (N := N) (μ 1 5 + 1) (tkl (μ 1)) (upf (μ 1) 5 (μ 1 5 + 1)) hN (fun T => decide (μ 1 5 + 1 < due (μ 1) T)) (fun T => by rw [due_up (μ 1) 5 _ (Or.inl rfl)]) (upf_eq _ _ _) (tkl (μ 1)).length N 0 (upm μ 1 5 (μ 1 5 + 1)) [] 0 (by omega) (by omega) (by omega) (by rw [e1]; exact sc.refl _) (by rw [e1]; exact g1e) (by simp) (by rw [e1, tkl_up (μ 1) 5 _ (by decide) (by decide)]; rfl) (by simp) (by omega)
  have hfl := List.length_filter_le (fun T => decide (μ 1 5 + 1 < due (μ 1) T)) (tkl (μ 1))
  have c9 : s' 1 9 = μ 1 9 := by rw [r3 9 (by decide) (by decide), upf_ne (by decide)]
  have key : f_X13_passes N μ = some (upm s' 1 9 (μ 1 9 + u), u) := by
    unfold f_X13_passes
    rw [if_pos (by unfold rng; omega), bl_eq, show f_X13_passes_14 N N (upm μ 1 5 (μ 1 5 + 1)) 0 0 = some (s', u) from r1, Option.bind_some]
    show (if rng (s' 1 9 + u) then bl (upm s' 1 9 (s' 1 9 + u)) (fun s41 => some (s41, u)) else none) = _
    rw [c9, if_pos (by unfold rng; omega)]; rfl
  rw [key]
  refine ⟨_, by rw [← r6], fun r hr => ?_, ?_, ?_, fun i h1 h2 => ?_⟩
  · rw [upm_role hr, r2 r hr, upm_role hr]
  · rw [upm_upf]; exact r4.use _ (by omega)
  · rw [upm_upf, tkl_up _ 9 _ (by decide) (by decide)]; exact r5
  · rw [upm_upf]
    by_cases q : i = 9
    · subst q; rw [upf_eq, upf_eq, r6]
    · rw [upf_ne q, upf_ne q]; exact r3 i h1 h2
end AD
