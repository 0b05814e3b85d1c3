/-! agreement of class and model, part 9Q -/
/-! the script's commands in the model: words and arguments -/
section MW
variable {sg : Ga} {ln cnt N p : Nat} {s s0 : Sm} {r r0 : Nat ⊕ Nat} {l : List Int}
theorem m_sale (h : RDM sg ln cnt [32] s0 r0 s) (hln : ln ≤ 60) (hN : 10 < N) (hc : cnt ≤ 20) : ∃ s', f_X13_readsSale N s = some s' ∧ RDM sg ln cnt (rs 11) s0 r0 s' := by
  obtain ⟨a1, v1, a2, e1, e2, h2⟩ := h.nm (N := N) hln hN (c := 35) (m := 1) (j := 0) (Or.inl ⟨rfl, rfl⟩) rfl (by decide) hc
  obtain ⟨a3, e3, h3⟩ := h2.ex hln (c := 32) (by decide)
  obtain ⟨a4, v4, a5, e4, e5, h5⟩ := h3.nm (N := N) hln hN (c := 64) (m := 3) (j := 1) (Or.inr ⟨rfl, rfl⟩) rfl (by decide) hc
  obtain ⟨a6, e6, h6⟩ := h5.ex hln (c := 32) (by decide)
  obtain ⟨a7, v7, a8, e7, e8, h8⟩ := h6.nm (N := N) hln hN (c := 35) (m := 1) (j := 2) (Or.inl ⟨rfl, rfl⟩) rfl (by decide) hc
  obtain ⟨a9, e9, h9⟩ := h8.ex hln (c := 62) (by decide)
  obtain ⟨b1, w1, b2, e10, e11, h10⟩ := h9.nm (N := N) hln hN (c := 35) (m := 1) (j := 3) (Or.inl ⟨rfl, rfl⟩) rfl (by decide) hc
  refine ⟨b2, ?_, h10⟩
  unfold f_X13_readsSale
  rw [show f_X13_number N s 1 = _ from e1, Option.bind_some, show f_X13_put a1 0 v1 = _ from e2, Option.bind_some, e3, Option.bind_some, show f_X13_number N a3 3 = _ from e4, Option.bind_some, show f_X13_put a4 1 v4 = _ from e5, Option.bind_some, e6, Option.bind_some, show f_X13_number N a6 1 = _ from e7, Option.bind_some, show f_X13_put a7 2 v7 = _ from e8, Option.bind_some, e9, Option.bind_some, show f_X13_number N a9 1 = _ from e10, Option.bind_some, show f_X13_put b1 3 w1 = _ from e11]; rfl
theorem m_line (h : RDM sg ln cnt [32] s0 r0 s) (hln : ln ≤ 60) (hN : 10 < N) (hc : cnt ≤ 20) : ∃ s', f_X13_readsLine N s = some s' ∧ RDM sg ln cnt (rs 2) s0 r0 s' := by
  obtain ⟨a1, v1, a2, e1, e2, h2⟩ := h.nm (N := N) hln hN (c := 64) (m := 3) (j := 0) (Or.inr ⟨rfl, rfl⟩) rfl (by decide) hc
  obtain ⟨a3, e3, h3⟩ := h2.ex hln (c := 47) (by decide)
  obtain ⟨a4, v4, a5, e4, e5, h5⟩ := h3.nm (N := N) hln hN (c := 64) (m := 3) (j := 1) (Or.inr ⟨rfl, rfl⟩) rfl (by decide) hc
  obtain ⟨a6, e6, h6⟩ := h5.ex hln (c := 32) (by decide)
  obtain ⟨a7, v7, a8, e7, e8, h8⟩ := h6.nm (N := N) hln hN (c := 35) (m := 1) (j := 2) (Or.inl ⟨rfl, rfl⟩) rfl (by decide) hc
  obtain ⟨a9, e9, h9⟩ := h8.ex hln (c := 120) (by decide)
  obtain ⟨b1, w1, b2, e10, e11, h10⟩ := h9.nm (N := N) hln hN (c := 64) (m := 3) (j := 3) (Or.inr ⟨rfl, rfl⟩) rfl (by decide) hc
  refine ⟨b2, ?_, h10⟩
  unfold f_X13_readsLine
  rw [show f_X13_number N s 3 = _ from e1, Option.bind_some, show f_X13_put a1 0 v1 = _ from e2, Option.bind_some, e3, Option.bind_some, show f_X13_number N a3 3 = _ from e4, Option.bind_some, show f_X13_put a4 1 v4 = _ from e5, Option.bind_some, e6, Option.bind_some, show f_X13_number N a6 1 = _ from e7, Option.bind_some, show f_X13_put a7 2 v7 = _ from e8, Option.bind_some, e9, Option.bind_some, show f_X13_number N a9 3 = _ from e10, Option.bind_some, show f_X13_put b1 3 w1 = _ from e11]; rfl
theorem m_walkR (h : RDM sg ln cnt [32] s0 r0 s) (hln : ln ≤ 60) (hN : 10 < N) (hc : cnt ≤ 20) : ∃ s', f_X13_readsWalk N s = some s' ∧ RDM sg ln cnt (rs 1) s0 r0 s' := by
  obtain ⟨a1, v1, a2, e1, e2, h2⟩ := h.nm (N := N) hln hN (c := 35) (m := 1) (j := 0) (Or.inl ⟨rfl, rfl⟩) rfl (by decide) hc
  obtain ⟨a3, e3, h3⟩ := h2.ex hln (c := 45) (by decide)
  obtain ⟨a4, v4, a5, e4, e5, h5⟩ := h3.nm (N := N) hln hN (c := 35) (m := 1) (j := 1) (Or.inl ⟨rfl, rfl⟩) rfl (by decide) hc
  obtain ⟨a6, e6, h6⟩ := h5.ex hln (c := 32) (by decide)
  obtain ⟨a7, v7, a8, e7, e8, h8⟩ := h6.nm (N := N) hln hN (c := 64) (m := 3) (j := 2) (Or.inr ⟨rfl, rfl⟩) rfl (by decide) hc
  refine ⟨a8, ?_, h8⟩
  unfold f_X13_readsWalk
  rw [show f_X13_number N s 1 = _ from e1, Option.bind_some, show f_X13_put a1 0 v1 = _ from e2, Option.bind_some, e3, Option.bind_some, show f_X13_number N a3 1 = _ from e4, Option.bind_some, show f_X13_put a4 1 v4 = _ from e5, Option.bind_some, e6, Option.bind_some, show f_X13_number N a6 3 = _ from e7, Option.bind_some, show f_X13_put a7 2 v7 = _ from e8]; rfl
/-- what is read behind the word of kind k -/
theorem m_args (h : mRd sg ln cnt s r) (hln : ln ≤ 60) (hN : 10 < N) (hc : cnt ≤ 20) {k : Nat} (hk : k < 14) (h5 : k ≠ 5) (h6 : k ≠ 6) : ∃ s', f_X13_readsArguments N s (k : Int) = some s' ∧ RDM sg ln cnt (rs k) s r s' := by
  obtain ⟨s1, e1, h1⟩ := (RDM.nil h).ex hln (c := 32) (by decide)
  have h1 : RDM sg ln cnt [32] s r s1 := h1
  unfold f_X13_readsArguments
  rw [e1, Option.bind_some]
  by_cases q1 : k = 1
  · subst q1
    obtain ⟨s2, e2, h2⟩ := m_walkR (N := N) h1 hln hN hc
    rw [if_pos (by decide), e2, Option.bind_some, if_neg (by decide)]
    exact ⟨s2, rfl, h2⟩
  · rw [if_neg (by omega)]
    by_cases q2 : k = 2
    · subst q2
      obtain ⟨s2, e2, h2⟩ := m_line (N := N) h1 hln hN hc
      rw [if_pos (by decide), e2, Option.bind_some, if_neg (by decide)]
      exact ⟨s2, rfl, h2⟩
    · rw [if_neg (by omega)]
      by_cases q11 : k = 11
      · subst q11
        obtain ⟨s2, e2, h2⟩ := m_sale (N := N) h1 hln hN hc
        rw [if_pos (by decide), e2, Option.bind_some, if_neg (by decide)]
        exact ⟨s2, rfl, h2⟩
      · rw [if_neg (by omega)]
        by_cases q12 : k < 12
        · obtain ⟨a1, v1, a2, e2, e3, h2⟩ := h1.nm (N := N) hln hN (c := 35) (m := 1) (j := 0) (Or.inl ⟨rfl, rfl⟩) rfl (by decide) hc
          rw [if_pos (by omega), show f_X13_number N s1 1 = _ from e2, Option.bind_some, show f_X13_put a1 0 v1 = _ from e3, Option.bind_some]
          by_cases q3 : k = 3
          · subst q3
            obtain ⟨a3, e4, h3⟩ := h2.ex hln (c := 32) (by decide)
            obtain ⟨a4, v4, a5, e5, e6, h4⟩ := h3.nm (N := N) hln hN (c := 35) (m := 1) (j := 1) (Or.inl ⟨rfl, rfl⟩) rfl (by decide) hc
            rw [if_pos (by decide), e4, Option.bind_some, show f_X13_number N a3 1 = _ from e5, Option.bind_some, show f_X13_put a4 1 v4 = _ from e6, Option.bind_some]
            exact ⟨a5, rfl, h4⟩
          · rw [if_neg (by omega)]
            refine ⟨a2, rfl, ?_⟩
            have : k = 0 ∨ k = 4 ∨ k = 7 ∨ k = 8 ∨ k = 9 ∨ k = 10 := by omega
            rcases this with rfl | rfl | rfl | rfl | rfl | rfl <;> exact h2
        · obtain ⟨a1, v1, a2, e2, e3, h2⟩ := h1.nm (N := N) hln hN (c := 64) (m := 3) (j := 0) (Or.inr ⟨rfl, rfl⟩) rfl (by decide) hc
          rw [if_neg (by omega), show f_X13_number N s1 3 = _ from e2, Option.bind_some, show f_X13_put a1 0 v1 = _ from e3, Option.bind_some, if_neg (by omega)]
          refine ⟨a2, rfl, ?_⟩
          have : k = 12 ∨ k = 13 := by omega
          rcases this with rfl | rfl <;> exact h2
theorem lcp_le (sg : Ga) (ln : Nat) : ∀ (w : List Int) (p : Nat), lcp sg ln w p ≤ w.length := by
  intro w
  induction w with
  | nil => intro p; exact Nat.le_refl _
  | cons c w ih =>
    intro p
    have := ih (p + 1)
    unfold lcp
    rw [List.length_cons]
    split <;> omega
theorem lcp_ln (sg : Ga) (ln : Nat) : ∀ (w : List Int) (p : Nat), p ≤ ln → p + lcp sg ln w p ≤ ln := by
  intro w
  induction w with
  | nil => intro p h; exact h
  | cons c w ih =>
    intro p h
    unfold lcp
    split
    · rename_i q
      have := ih (p + 1) (by omega)
      omega
    · exact h
theorem lcp_ch (sg : Ga) (ln : Nat) : ∀ (w : List Int) (p i : Nat), i < lcp sg ln w p → sg (p + i) = w.getD i 0 := by
  intro w
  induction w with
  | nil => intro p i h; exact absurd h (Nat.not_lt_zero i)
  | cons c w ih =>
    intro p i h
    unfold lcp at h
    split at h
    · rename_i q
      cases i with
      | zero => exact q.2
      | succ i =>
        have := ih (p + 1) i (by omega)
        rw [show p + 1 + i = p + (i + 1) by omega] at this
        rw [this]; rfl
    · omega
theorem rdl_word (sg : Ga) (ln : Nat) : ∀ (w : List Int) (p : Nat), (∀ c ∈ w, 0 < c ∧ c ≠ 35 ∧ c ≠ 64) → rdl sg ln w (.inl p) = if lcp sg ln w p = w.length then .inl (p + w.length) else .inr (p + lcp sg ln w p) := by
  intro w
  induction w with
  | nil => intro p _; rfl
  | cons c w ih =>
    intro p h
    have hc := h c (List.mem_cons_self ..)
    have hw := fun d hd => h d (List.mem_cons_of_mem c hd)
    have e : eoT sg ln c p = if p < ln ∧ sg p = c then p + 1 else p := by
      unfold eoT; rw [if_neg hc.2.1, if_neg hc.2.2]
    show rdl sg ln w (if eoT sg ln c p = p then .inr p else .inl (eoT sg ln c p)) = _
    unfold lcp
    rw [List.length_cons, e]
    by_cases q : p < ln ∧ sg p = c
    · rw [if_pos q, if_neg (by omega), if_pos q, ih (p + 1) hw]
      have := lcp_le sg ln w (p + 1)
      by_cases q2 : lcp sg ln w (p + 1) = w.length
      · rw [if_pos q2, if_pos (by omega)]; congr 1; omega
      · rw [if_neg q2, if_neg (by omega)]; congr 1; omega
    · rw [if_neg q, if_pos rfl, if_neg q, rdl_inr, if_neg (by omega)]; rfl
theorem m_w12 (h : mRd sg ln cnt s (.inl p)) (hln : ln ≤ 60) {k : Nat} (hk : k < 14) (x1 : Int) : ∀ (l : List Int) (j n : Nat), (wd k).drop j = l → j + l.length = (wd k).length → l.length < n → f_X13_word_12 s x1 k n j = some ((j + lcp sg ln l (p + j) : Nat) : Int) := by
  obtain ⟨h1, h2, h3, h5, h6, h7⟩ := h
  obtain ⟨w1, w2, w3⟩ := wd_ok k hk
  intro l
  induction l with
  | nil =>
    intro j n hd hj hn
    obtain ⟨n, rfl⟩ : ∃ k, n = k + 1 := ⟨n - 1, by omega⟩
    have hj' : j = (wd k).length := by simpa using hj
    have e : (wd k).getD j 0 = 0 := by
      rw [List.getD_eq_getElem?_getD, List.getElem?_eq_none (by omega)]; rfl
    rw [f_X13_word_12, sp_ok k hk j (by omega), Option.bind_some, e, if_pos (by decide)]; rfl
  | cons c l ih =>
    intro j n hd hj hn
    obtain ⟨n, rfl⟩ : ∃ k, n = k + 1 := ⟨n - 1, by omega⟩
    obtain ⟨d1, d2, d3⟩ := drop_cons hd
    rw [List.length_cons] at hj hn
    have hc : 0 < c := by
      have hm : c ∈ wd k := by
        have : c ∈ (wd k).drop j := by rw [hd]; exact List.mem_cons_self ..
        exact List.mem_of_mem_drop this
      exact (w3 c hm).1
    rw [f_X13_word_12, sp_ok k hk j (by omega), Option.bind_some, d1, if_neg (by omega), h6, h1, if_pos (by unfold rng; omega)]
    unfold lcp
    by_cases q : p + j < ln
    · rw [if_neg (by omega), if_pos (by omega), Option.bind_some, show ((p : Int) + j).toNat = p + j by omega, h2 (p + j) q]
      by_cases q2 : sg (p + j) = c
      · rw [if_pos q2, if_pos (by unfold rng; omega), if_pos (show p + j < ln ∧ sg (p + j) = c from ⟨q, q2⟩)]
        have := ih (j + 1) n d2 (by omega) (by omega)
        rw [show p + (j + 1) = p + j + 1 by omega] at this
        rw [show (j : Int) + 1 = ((j + 1 : Nat) : Int) by omega, this]
        congr 1; omega
      · rw [if_neg q2, if_neg (show ¬ (p + j < ln ∧ sg (p + j) = c) from fun h => q2 h.2)]; rfl
    · rw [if_pos (by omega), if_neg (show ¬ (p + j < ln ∧ sg (p + j) = c) from fun h => q h.1)]; rfl
/-- the longest beginning of a word below k -/
def BW (sg : Ga) (ln p k b : Nat) : Prop := (∀ k', k' < k → lcp sg ln (wd k') p < (wd k').length ∧ lcp sg ln (wd k') p ≤ b) ∧ (b = 0 ∨ ∃ k', k' < k ∧ lcp sg ln (wd k') p = b)
theorem m_w4 (h : mRd sg ln cnt s (.inl p)) (hln : ln ≤ 60) (hN : 10 < N) : ∀ (n k b : Nat), k ≤ 14 → 14 - k < n → BW sg ln p k b → (∃ k', k' < 14 ∧ lcp sg ln (wd k') p = (wd k').length ∧ f_X13_word_4 N n s (b : Int) k = some (.inl (upm s 19 0 ((p + (wd k').length : Nat) : Int), (k' : Int)))) ∨ ∃ b' : Nat, f_X13_word_4 N n s (b : Int) k = some (.inr (s, (b' : Int))) ∧ BW sg ln p 14 b' := by
  intro n
  have h0 := h
  obtain ⟨h1, h2, h3, h5, h6, h7⟩ := h
  induction n with
  | zero => intro k b _ hh; omega
  | succ n ih =>
    intro k b hk hn hb
    rw [f_X13_word_4]
    by_cases e : 14 ≤ (k : Int)
    · rw [if_pos e]
      have : k = 14 := by omega
      subst this
      exact Or.inr ⟨b, rfl, hb⟩
    · have hk14 : k < 14 := by omega
      obtain ⟨w1, w2, w3⟩ := wd_ok k hk14
      have e12 := m_w12 h0 hln hk14 (b : Int) (wd k) 0 N rfl (by omega) (by omega)
      have le := lcp_le sg ln (wd k) p
      rw [Nat.zero_add, Nat.add_zero] at e12
      rw [if_neg e, show f_X13_word_12 s b k N 0 = _ from e12, Option.bind_some, sp_ok k hk14 _ (by omega), Option.bind_some]
      by_cases q : lcp sg ln (wd k) p = (wd k).length
      · have z : (wd k).getD (lcp sg ln (wd k) p) 0 = 0 := by
          rw [List.getD_eq_getElem?_getD, List.getElem?_eq_none (by omega)]; rfl
        rw [z, if_pos rfl, h6, if_pos (by unfold rng; omega), bl_eq, q]
        exact Or.inl ⟨k, hk14, q, by rw [show (p : Int) + ((wd k).length : Nat) = ((p + (wd k).length : Nat) : Int) by omega]⟩
      · have z : ¬ (wd k).getD (lcp sg ln (wd k) p) 0 = 0 := by
          have hl : lcp sg ln (wd k) p < (wd k).length := by omega
          rw [List.getD_eq_getElem?_getD, List.getElem?_eq_getElem hl]
          have := (w3 _ (List.getElem_mem hl)).1
          show ¬ (wd k)[lcp sg ln (wd k) p] = 0
          omega
        rw [if_neg z]
        by_cases q2 : ((lcp sg ln (wd k) p : Nat) : Int) ≤ (b : Int)
        · rw [if_pos q2]
          refine ih (k + 1) b (by omega) (by omega) ⟨fun k' hk' => ?_, ?_⟩
          · by_cases ek : k' = k
            · subst ek; exact ⟨by omega, by omega⟩
            · exact hb.1 k' (by omega)
          · rcases hb.2 with hz | ⟨k', a1, a2⟩
            · exact Or.inl hz
            · exact Or.inr ⟨k', by omega, a2⟩
        · rw [if_neg q2]
          refine ih (k + 1) _ (by omega) (by omega) ⟨fun k' hk' => ?_, Or.inr ⟨k, by omega, rfl⟩⟩
          by_cases ek : k' = k
          · subst ek; exact ⟨by omega, Nat.le_refl _⟩
          · have := hb.1 k' (by omega)
            exact ⟨this.1, by omega⟩
theorem m_word (h : mRd sg ln cnt s (.inl p)) (hln : ln ≤ 60) (hN : 20 < N) : ∃ s' r, (∀ q, q ≠ 19 → q ≠ 21 → s' q = s q) ∧ mRd sg ln cnt s' r ∧ ((∃ k, k < 14 ∧ lcp sg ln (wd k) p = (wd k).length ∧ f_X13_word N s = some (s', (k : Int)) ∧ r = .inl (p + (wd k).length)) ∨ (∃ b, BW sg ln p 14 b ∧ f_X13_word N s = some (s', 0) ∧ r = .inr (p + b))) := by
  have h0 := h
  obtain ⟨h1, h2, h3, h5, h6, h7⟩ := h
  unfold f_X13_word
  rcases m_w4 (N := N) h0 hln (by omega) N 0 0 (by omega) (by omega) ⟨fun k' h => absurd h (Nat.not_lt_zero k'), Or.inl rfl⟩ with ⟨k, k1, k2, k3⟩ | ⟨b, b1, b2⟩
  · have lb := lcp_ln sg ln (wd k) p h7
    refine ⟨_, .inl (p + (wd k).length), fun q a _ => upm_role a, h0.up (fun q _ a _ => upm_role a) ⟨by rw [upm_role (by decide)]; exact h5, upm_same _ _ _ _, by omega⟩, Or.inl ⟨k, k1, k2, ?_, rfl⟩⟩
    rw [show f_X13_word_4 N N s 0 0 = _ from k3]; rfl
  · have lb : p + b ≤ ln := by
      rcases b2.2 with hz | ⟨k', a1, a2⟩
      · omega
      · have := lcp_ln sg ln (wd k') p h7
        omega
    have fr : ∀ q, q ≠ 19 → q ≠ 21 → upm (upm s 19 0 ((p : Int) + b)) 21 0 1 q = s q := fun q a c => by rw [upm_role c, upm_role a]
    refine ⟨_, .inr (p + b), fr, h0.up (fun q _ a c => fr q a c) ⟨upm_same _ _ _ _, by rw [upm_role (by decide), upm_same]; omega, lb⟩, Or.inr ⟨b, b2, ?_, rfl⟩⟩
    rw [show f_X13_word_4 N N s 0 0 = _ from b1]
    show (if rng (s 19 0 + b) then _ else _) = _
    rw [if_pos (by rw [h6]; unfold rng; omega), bl_eq, bl_eq]
    show some (upm (upm s 19 0 (s 19 0 + b)) 21 0 1, (0 : Int)) = _
    rw [h6]
/-- the error position, when no form fits -/
theorem EP.none {b : Nat} (h : BW sg ln p 14 b) : EP sg ln p 14 ((p + b : Nat) : Int) ∧ ∀ k, k < 14 → ∃ q : Nat, rdl sg ln (frm k) (.inl p) = .inr q := by
  have key : ∀ k, k < 14 → rdl sg ln (frm k) (.inl p) = .inr (p + lcp sg ln (wd k) p) := fun k hk => by
    rw [frm_wr k hk, rdl_ap, rdl_word sg ln _ _ (wd_ok k hk).2.2, if_neg (by have := (h.1 k hk).1; omega), rdl_inr]
  refine ⟨⟨by omega, fun k hk => ⟨_, key k hk, by have := (h.1 k hk).2; omega⟩, ?_⟩, fun k hk => ⟨_, key k hk⟩⟩
  rcases h.2 with rfl | ⟨k, a1, a2⟩
  · exact Or.inl rfl
  · exact Or.inr ⟨k, p + lcp sg ln (wd k) p, a1, key k a1, by rw [a2]⟩
theorem rdl_other {k k' : Nat} (hk : k < 14) (hk' : k' < 14) (hne : k ≠ k') (h : lcp sg ln (wd k) p = (wd k).length) : lcp sg ln (wd k') p < (wd k).length ∧ rdl sg ln (frm k') (.inl p) = .inr (p + lcp sg ln (wd k') p) := by
  obtain ⟨i, -, i1, i2, i3⟩ := wd_df k hk k' hk' hne
  have c1 := lcp_ch sg ln (wd k) p i (by omega)
  have le : lcp sg ln (wd k') p ≤ i := by
    by_cases q : i < lcp sg ln (wd k') p
    · have c2 := lcp_ch sg ln (wd k') p i q
      rw [c1] at c2
      exact absurd c2 i3
    · omega
  refine ⟨by omega, ?_⟩
  rw [frm_wr k' hk', rdl_ap, rdl_word sg ln _ _ (wd_ok k' hk').2.2, if_neg (by omega), rdl_inr]
theorem EP.word {k q : Nat} (hk : k < 14) (h : lcp sg ln (wd k) p = (wd k).length) (hq : rdl sg ln (frm k) (.inl p) = .inr q) : EP sg ln p 14 (q : Int) := by
  have hq0 := hq
  rw [frm_wr k hk, rdl_ap, rdl_word sg ln _ _ (wd_ok k hk).2.2, if_pos h] at hq0
  have le := (rdl_le sg ln (rs k) (p + (wd k).length)).2.1 q hq0
  refine ⟨by omega, fun k' hk' => ?_, Or.inr ⟨k, q, hk, hq, rfl⟩⟩
  by_cases e : k = k'
  · subst e; exact ⟨q, hq, Int.le_refl _⟩
  · obtain ⟨o1, o2⟩ := rdl_other hk hk' e h
    exact ⟨_, o2, by omega⟩
theorem EP.uniq {E E' : Int} (h : EP sg ln p 14 E) (h' : EP sg ln p 14 E') : E = E' := by
  have key : ∀ {A B : Int}, EP sg ln p 14 A → EP sg ln p 14 B → A ≤ B := fun {A B} ha hb => by
    rcases ha.2.2 with e | ⟨k, q, k1, k2, e⟩
    · rw [e]; exact hb.1
    · obtain ⟨q', b1, b2⟩ := hb.2.1 k k1
      rw [k2] at b1
      have : q = q' := by injection b1
      rw [e, this]; exact b2
  exact Int.le_antisymm (key h h') (key h' h)
end MW
