/-! agreement of class and model, part 9O -/
/-! the script's text in the class: forms and commands -/
def frm (k : Nat) : List Int := fB.getD k []
/-- what a reading may change, at command c -/
def FS (c : Nat) (σ s : Sm) : Prop := (∀ r, r ≠ 386 → r ≠ 388 → r ≠ 389 → s r = σ r) ∧ (∀ i, i ≠ 3 → s 386 i = σ 386 i) ∧ (∀ i, i ≠ c → s 388 i = σ 388 i) ∧ ∀ i, i < 4 * c ∨ 4 * c + 4 ≤ i → s 389 i = σ 389 i
section RF
variable {ln N c p : Nat} {σ s : Sm}
theorem FS.refl (c : Nat) (σ : Sm) : FS c σ σ := ⟨fun _ _ _ _ => rfl, fun _ _ => rfl, fun _ _ => rfl, fun _ _ => rfl⟩
theorem FS.trans {υ : Sm} (h : FS c σ s) (h2 : FS c s υ) : FS c σ υ := ⟨fun r a b d => (h2.1 r a b d).trans (h.1 r a b d), fun i a => (h2.2.1 i a).trans (h.2.1 i a), fun i a => (h2.2.2.1 i a).trans (h.2.2.1 i a), fun i a => (h2.2.2.2 i a).trans (h.2.2.2 i a)⟩
theorem FS.err (c : Nat) (σ : Sm) (v : Int) : FS c σ (upm σ 386 3 v) := ⟨fun r a _ _ => upm_role a, fun i a => upm_cell a, fun i _ => by rw [upm_role (by decide)], fun i _ => by rw [upm_role (by decide)]⟩
theorem FS.val (c : Nat) (σ : Sm) {m : Nat} (hm : m < 4) (v : Int) : FS c σ (upm σ 389 (4 * c + m) v) := ⟨fun r _ _ a => upm_role a, fun i _ => by rw [upm_role (by decide)], fun i _ => by rw [upm_role (by decide)], fun i a => upm_cell (by omega)⟩
theorem FS.cmd (c : Nat) (σ : Sm) (v : Int) : FS c σ (upm σ 388 c v) := ⟨fun r _ a _ => upm_role a, fun i _ => by rw [upm_role (by decide)], fun i a => upm_cell a, fun i _ => by rw [upm_role (by decide)]⟩
theorem j_max (a b : Int) : f_J9_max_7cf53 a b = some (max a b) := by
  unfold f_J9_max_7cf53
  split
  · congr 1; omega
  · congr 1; omega
theorem drop_cons {L l : List Int} {j : Nat} {a : Int} (h : L.drop j = a :: l) : L.getD j 0 = a ∧ L.drop (j + 1) = l ∧ j < L.length := by
  have h1 : (L.drop j)[0]? = L[j]? := by simp
  rw [h] at h1
  have h2 : L[j]? = some a := by rw [← h1]; rfl
  refine ⟨by rw [List.getD_eq_getElem?_getD, h2]; rfl, ?_, ?_⟩
  · have : L.drop (j + 1) = (L.drop j).drop 1 := by rw [List.drop_drop]
    rw [this, h]; rfl
  · by_cases q : j < L.length
    · exact q
    · rw [List.getElem?_eq_none (by omega)] at h2; cases h2
theorem nvt_cons (a : Int) (l : List Int) : nvt (a :: l) = (if isV a then 1 else 0) + nvt l := by
  unfold nvt
  by_cases h : isV a = true
  · rw [if_pos h, List.filter_cons_of_pos h, List.length_cons]; omega
  · rw [if_neg h, List.filter_cons_of_neg h]; omega
theorem c_form8 {k : Nat} (hfl : fln k = ((frm k).length : Int)) (hln : ln ≤ 60) (hN : 10 < N) (hc : c ≤ 15) : ∀ (l : List Int) (j i m n : Nat) (σ : Sm), (frm k).drop j = l → j + l.length = (frm k).length → nvt l + m ≤ 4 → l.length < n → i ≤ ln → σ 386 1 = (ln : Int) → σ 386 2 = (c : Int) → (∀ i, i < ln → 32 ≤ σ 387 i ∧ σ 387 i ≤ 126) → ∃ s, FS c σ s ∧ (∀ q, q < m → s 389 (4 * c + q) = σ 389 (4 * c + q)) ∧ ((∃ e : Nat, rdl (σ 387) ln l (.inl i) = .inl e ∧ f_X9_readForm_8 N 386 k n σ i m j = some (.inr (s, (e : Int))) ∧ s 386 3 = σ 386 3 ∧ ∀ q, q < nvt l → s 389 (4 * c + (m + q)) = (vls (σ 387) ln l (.inl i)).getD q 0) ∨ (∃ q : Nat, rdl (σ 387) ln l (.inl i) = .inr q ∧ f_X9_readForm_8 N 386 k n σ i m j = some (.inl (s, -1)) ∧ s 386 3 = max (σ 386 3) q)) := by
  intro l
  induction l with
  | nil =>
    intro j i m n σ hd hj hv hn hi h1 h2 hs
    obtain ⟨n, rfl⟩ : ∃ k, n = k + 1 := ⟨n - 1, by omega⟩
    have hj' : j = (frm k).length := by simpa using hj
    refine ⟨σ, FS.refl _ _, fun _ _ => rfl, Or.inl ⟨i, rfl, ?_, rfl, fun q hq => ?_⟩⟩
    · rw [f_X9_readForm_8, hfl, if_pos (by omega)]
    · exact absurd hq (Nat.not_lt_zero q)
  | cons a l ih =>
    intro j i m n σ hd hj hv hn hi h1 h2 hs
    obtain ⟨n, rfl⟩ : ∃ k, n = k + 1 := ⟨n - 1, by omega⟩
    obtain ⟨d1, d2, d3⟩ := drop_cons hd
    have hl : (a :: l).length = l.length + 1 := rfl
    rw [hl] at hj hn
    have hch : fch k (j : Int) = a := by unfold fch; rw [Int.toNat_natCast]; exact d1
    have le := eoT_le (σ 387) ln a i
    have lle := eoT_ln (σ 387) ln a hi
    have head : f_X9_readForm_8 N 386 k (n + 1) σ i m j = (if ((eoT (σ 387) ln a i : Nat) : Int) = (i : Int) then some (.inl (upm σ 386 3 (max (σ 386 3) i), -1)) else (if a = 35 then (if 4 ≤ (m : Int) then f_X9_readForm_8 N 386 k n σ (eoT (σ 387) ln a i : Nat) m ((j : Int) + 1) else f_X9_readForm_8 N 386 k n (upm σ 389 (4 * c + m) (vot (σ 387) ln a (.inl i))) (eoT (σ 387) ln a i : Nat) ((m : Int) + 1) ((j : Int) + 1)) else (if a = 64 then (if 4 ≤ (m : Int) then f_X9_readForm_8 N 386 k n σ (eoT (σ 387) ln a i : Nat) m ((j : Int) + 1) else f_X9_readForm_8 N 386 k n (upm σ 389 (4 * c + m) (vot (σ 387) ln a (.inl i))) (eoT (σ 387) ln a i : Nat) ((m : Int) + 1) ((j : Int) + 1)) else f_X9_readForm_8 N 386 k n σ (eoT (σ 387) ln a i : Nat) m ((j : Int) + 1)))) := by
      have nv := c_numIn (σ := σ) (N := N) hs hln hN a hi
      rw [f_X9_readForm_8, hfl, if_neg (by omega), if_pos (by omega), bl_eq, hch, c_endOf (N := N) h1 hln hN a (by omega), Option.bind_some]
      by_cases q : ((eoT (σ 387) ln a i : Nat) : Int) = (i : Int)
      · rw [if_pos q, if_pos q, j_max, Option.bind_some, bl_eq]
      · rw [if_neg q, if_neg q]
        by_cases q1 : a = 35
        · rw [if_pos q1, if_pos q1]
          by_cases q4 : 4 ≤ (m : Int)
          · rw [if_pos q4, if_pos q4]
          · rw [if_neg q4, if_neg q4, nv, Option.bind_some, h2, if_pos (by omega), bl_eq, show ((c : Int) * 4 + m).toNat = 4 * c + m by omega]
        · rw [if_neg q1, if_neg q1]
          by_cases q2 : a = 64
          · rw [if_pos q2, if_pos q2]
            by_cases q4 : 4 ≤ (m : Int)
            · rw [if_pos q4, if_pos q4]
            · rw [if_neg q4, if_neg q4, nv, Option.bind_some, h2, if_pos (by omega), bl_eq, show ((c : Int) * 4 + m).toNat = 4 * c + m by omega]
          · rw [if_neg q2, if_neg q2]
    have rx : rdl (σ 387) ln (a :: l) (.inl i) = rdl (σ 387) ln l (if eoT (σ 387) ln a i = i then .inr i else .inl (eoT (σ 387) ln a i)) := rfl
    rw [nvt_cons] at hv
    by_cases q : eoT (σ 387) ln a i = i
    · refine ⟨upm σ 386 3 (max (σ 386 3) i), FS.err _ _ _, fun q _ => by rw [upm_role (by decide)], Or.inr ⟨i, ?_, ?_, upm_same _ _ _ _⟩⟩
      · rw [rx, if_pos q, rdl_inr]
      · rw [head, if_pos (by omega)]
    · have qi : ¬ ((eoT (σ 387) ln a i : Nat) : Int) = (i : Int) := by omega
      rw [if_neg q] at rx
      by_cases v : isV a = true
      · rw [if_pos v] at hv
        obtain ⟨X, hX⟩ : ∃ X, X = upm σ 389 (4 * c + m) (vot (σ 387) ln a (.inl i)) := ⟨_, rfl⟩
        have x387 : X 387 = σ 387 := by subst hX; exact upm_role (by decide)
        have x386 : X 386 = σ 386 := by subst hX; exact upm_role (by decide)
        have fx : FS c σ X := by subst hX; exact FS.val c σ (by omega) _
        obtain ⟨s, s1, s2, s3⟩ := ih (j + 1) (eoT (σ 387) ln a i) (m + 1) n X d2 (by omega) (by omega) (by omega) lle (by rw [x386]; exact h1) (by rw [x386]; exact h2) (by rw [x387]; exact hs)
        rw [x387, x386] at s3
        have hd : f_X9_readForm_8 N 386 k (n + 1) σ i m j = f_X9_readForm_8 N 386 k n X (eoT (σ 387) ln a i : Nat) ((m + 1 : Nat) : Int) ((j + 1 : Nat) : Int) := by
          rw [head, if_neg qi]
          have v' : a = 35 ∨ a = 64 := by unfold isV at v; simpa using v
          rcases v' with v' | v'
          · rw [if_pos v', if_neg (by omega), hX]; rfl
          · rw [if_neg (by omega), if_pos v', if_neg (by omega), hX]; rfl
        refine ⟨s, fx.trans s1, fun q hq => ?_, ?_⟩
        · rw [s2 q (by omega), hX, upm_cell (by omega)]
        · rcases s3 with ⟨e, e1, e2, e3, e4⟩ | ⟨q, e1, e2, e3⟩
          · refine Or.inl ⟨e, by rw [rx]; exact e1, by rw [hd]; exact e2, e3, fun q hq => ?_⟩
            rw [nvt_cons, if_pos v] at hq
            have hvl : vls (σ 387) ln (a :: l) (.inl i) = vot (σ 387) ln a (.inl i) :: vls (σ 387) ln l (stt (σ 387) ln a (.inl i)) := by
              show (if isV a then _ else _) = _
              rw [if_pos v]
            have hst : stt (σ 387) ln a (.inl i) = .inl (eoT (σ 387) ln a i) := by
              show (if eoT (σ 387) ln a i = i then _ else _) = _
              rw [if_neg (by assumption)]
            rw [hvl, hst]
            cases q with
            | zero =>
              show s 389 (4 * c + m) = _
              rw [s2 m (by omega), hX]; exact upm_same _ _ _ _
            | succ q =>
              have := e4 q (by omega)
              rw [show m + 1 + q = m + (q + 1) by omega] at this
              rw [this]; rfl
          · exact Or.inr ⟨q, by rw [rx]; exact e1, by rw [hd]; exact e2, e3⟩
      · rw [if_neg v] at hv
        obtain ⟨s, s1, s2, s3⟩ := ih (j + 1) (eoT (σ 387) ln a i) m n σ d2 (by omega) (by omega) (by omega) lle h1 h2 hs
        have v' : ¬ (a = 35 ∨ a = 64) := by unfold isV at v; simpa using v
        have hd : f_X9_readForm_8 N 386 k (n + 1) σ i m j = f_X9_readForm_8 N 386 k n σ (eoT (σ 387) ln a i : Nat) (m : Nat) ((j + 1 : Nat) : Int) := by
          rw [head, if_neg qi, if_neg (fun h => v' (Or.inl h)), if_neg (fun h => v' (Or.inr h))]; rfl
        refine ⟨s, s1, s2, ?_⟩
        rcases s3 with ⟨e, e1, e2, e3, e4⟩ | ⟨q, e1, e2, e3⟩
        · refine Or.inl ⟨e, by rw [rx]; exact e1, by rw [hd]; exact e2, e3, fun q hq => ?_⟩
          rw [nvt_cons, if_neg v] at hq
          have hvl : vls (σ 387) ln (a :: l) (.inl i) = vls (σ 387) ln l (stt (σ 387) ln a (.inl i)) := by
            show (if isV a then _ else _) = _
            rw [if_neg v]
          have hst : stt (σ 387) ln a (.inl i) = .inl (eoT (σ 387) ln a i) := by
            show (if eoT (σ 387) ln a i = i then _ else _) = _
            rw [if_neg (by assumption)]
          rw [hvl, hst]
          exact e4 q (by omega)
        · exact Or.inr ⟨q, by rw [rx]; exact e1, by rw [hd]; exact e2, e3⟩
theorem frm_ok : ∀ k, k < 14 → fln k = ((frm k).length : Int) ∧ nvt (frm k) ≤ 4 ∧ 3 ≤ (frm k).length ∧ (frm k).length ≤ 12 := by decide
theorem c_form {k : Nat} (hk : k < 14) (hln : ln ≤ 60) (hN : 30 < N) (hc : c ≤ 15) (hp : p ≤ ln) (h1 : σ 386 1 = (ln : Int)) (h2 : σ 386 2 = (c : Int)) (hs : ∀ i, i < ln → 32 ≤ σ 387 i ∧ σ 387 i ≤ 126) : ∃ s, FS c σ s ∧ ((∃ e : Nat, rdl (σ 387) ln (frm k) (.inl p) = .inl e ∧ f_X9_readForm N σ 386 k p = some (s, (e : Int)) ∧ s 386 3 = σ 386 3 ∧ ∀ q, q < nvt (frm k) → s 389 (4 * c + q) = (vls (σ 387) ln (frm k) (.inl p)).getD q 0) ∨ (∃ q : Nat, rdl (σ 387) ln (frm k) (.inl p) = .inr q ∧ f_X9_readForm N σ 386 k p = some (s, -1) ∧ s 386 3 = max (σ 386 3) q)) := by
  obtain ⟨f1, f2, f3, f4⟩ := frm_ok k hk
  obtain ⟨s, s1, s2, s3⟩ := c_form8 (N := N) f1 hln (by omega) hc (frm k) 0 p 0 N σ rfl (by omega) (by omega) (by omega) hp h1 h2 hs
  refine ⟨s, s1, ?_⟩
  unfold f_X9_readForm
  rcases s3 with ⟨e, e1, e2, e3, e4⟩ | ⟨q, e1, e2, e3⟩
  · refine Or.inl ⟨e, e1, ?_, e3, fun q hq => ?_⟩
    · rw [show f_X9_readForm_8 N 386 k N σ p 0 0 = _ from e2]; rfl
    · have := e4 q hq
      rw [Nat.zero_add] at this; exact this
  · refine Or.inr ⟨q, e1, ?_, e3⟩
    rw [show f_X9_readForm_8 N 386 k N σ p 0 0 = _ from e2]; rfl
/-- the error position while the forms below k have failed -/
def EP (sg : Ga) (ln p k : Nat) (E : Int) : Prop := (p : Int) ≤ E ∧ (∀ k', k' < k → ∃ q : Nat, rdl sg ln (frm k') (.inl p) = .inr q ∧ (q : Int) ≤ E) ∧ (E = p ∨ ∃ k' q : Nat, k' < k ∧ rdl sg ln (frm k') (.inl p) = .inr q ∧ E = q)
theorem EP.step {sg : Ga} {k q : Nat} {E : Int} (he : EP sg ln p k E) (e1 : rdl sg ln (frm k) (.inl p) = .inr q) : EP sg ln p (k + 1) (max E q) := by
  obtain ⟨a1, a2, a3⟩ := he
  have m1 : E ≤ max E (q : Int) := Int.le_max_left _ _
  have m2 : (q : Int) ≤ max E (q : Int) := Int.le_max_right _ _
  refine ⟨Int.le_trans a1 m1, fun k' hk' => ?_, ?_⟩
  · by_cases ek : k' = k
    · subst ek; exact ⟨q, e1, m2⟩
    · obtain ⟨q', b1, b2⟩ := a2 k' (by clear a3; omega)
      exact ⟨q', b1, Int.le_trans b2 m1⟩
  · by_cases hq : (q : Int) ≤ E
    · rw [show max E (q : Int) = E from Int.max_eq_left hq]
      rcases a3 with h | ⟨k', q', b1, b2, b3⟩
      · exact Or.inl h
      · exact Or.inr ⟨k', q', Nat.lt_succ_of_lt b1, b2, b3⟩
    · exact Or.inr ⟨k, q, Nat.lt_succ_self k, e1, Int.max_eq_right (Int.le_of_not_le hq)⟩
theorem c_rc7 (hln : ln ≤ 60) (hN : 30 < N) (hc : c ≤ 15) (hp : p ≤ ln) : ∀ (n k : Nat) (σ : Sm), k ≤ 14 → 14 - k < n → σ 386 1 = (ln : Int) → σ 386 2 = (c : Int) → (∀ i, i < ln → 32 ≤ σ 387 i ∧ σ 387 i ≤ 126) → EP (σ 387) ln p k (σ 386 3) → ∃ s, FS c σ s ∧ ((∃ k' e : Nat, k' < 14 ∧ rdl (σ 387) ln (frm k') (.inl p) = .inl e ∧ f_X9_readCommand_7 N 386 p n σ k = some (.inl (s, (e : Int))) ∧ s 388 c = (k' : Int) ∧ ∀ q, q < nvt (frm k') → s 389 (4 * c + q) = (vls (σ 387) ln (frm k') (.inl p)).getD q 0) ∨ (f_X9_readCommand_7 N 386 p n σ k = some (.inr s) ∧ EP (σ 387) ln p 14 (s 386 3))) := by
  intro n
  induction n with
  | zero => intro k σ _ h; omega
  | succ n ih =>
    intro k σ hk hn h1 h2 hs he
    rw [f_X9_readCommand_7]
    by_cases e : 14 ≤ (k : Int)
    · rw [if_pos e]
      have : k = 14 := by omega
      subst this
      exact ⟨σ, FS.refl _ _, Or.inr ⟨rfl, he⟩⟩
    · rw [if_neg e, if_pos (by omega), Int.toNat_natCast]
      obtain ⟨s, s1, s2⟩ := c_form (N := N) (k := k) (by omega) hln hN hc hp h1 h2 hs
      have s387 : s 387 = σ 387 := s1.1 387 (by decide) (by decide) (by decide)
      rcases s2 with ⟨e, e1, e2, e3, e4⟩ | ⟨q, e1, e2, e3⟩
      · have c2 : s 386 2 = (c : Int) := by rw [s1.2.1 2 (by decide)]; exact h2
        rw [e2, Option.bind_some]
        dsimp only
        rw [if_neg (by omega)]
        refine ⟨_, s1.trans (FS.cmd c s k), Or.inl ⟨k, e, by omega, e1, ?_, upm_same _ _ _ _, fun q hq => ?_⟩⟩
        · show (if 0 ≤ s 386 2 ∧ s 386 2 < 16 then some (Sum.inl (upm s 388 (s 386 2).toNat (k : Int), (e : Int))) else none : Option ((Sm × Int) ⊕ Sm)) = _
          rw [c2, if_pos (by omega), Int.toNat_natCast]
        · rw [upm_role (by decide)]; exact e4 q hq
      · rw [e2, Option.bind_some]
        dsimp only
        rw [if_pos rfl]
        obtain ⟨t, t1, t2⟩ := ih (k + 1) s (by omega) (by omega) (by rw [s1.2.1 1 (by decide)]; exact h1) (by rw [s1.2.1 2 (by decide)]; exact h2) (by rw [s387]; exact hs) (by
          rw [s387, e3]
          exact he.step e1)
        rw [s387] at t2
        exact ⟨t, s1.trans t1, t2⟩
theorem c_readCommand (hln : ln ≤ 60) (hN : 30 < N) (hc : c ≤ 15) (hp : p ≤ ln) (h1 : σ 386 1 = (ln : Int)) (h2 : σ 386 2 = (c : Int)) (hs : ∀ i, i < ln → 32 ≤ σ 387 i ∧ σ 387 i ≤ 126) : ∃ s, FS c σ s ∧ ((∃ k e : Nat, k < 14 ∧ rdl (σ 387) ln (frm k) (.inl p) = .inl e ∧ f_X9_readCommand N σ 386 p = some (s, (e : Int)) ∧ s 388 c = (k : Int) ∧ ∀ q, q < nvt (frm k) → s 389 (4 * c + q) = (vls (σ 387) ln (frm k) (.inl p)).getD q 0) ∨ (f_X9_readCommand N σ 386 p = some (s, -1) ∧ EP (σ 387) ln p 14 (s 386 3))) := by
  have f0 := FS.err c σ (p : Int)
  have e387 : upm σ 386 3 (p : Int) 387 = σ 387 := upm_role (by decide)
  obtain ⟨s, s1, s2⟩ := c_rc7 (N := N) (c := c) (p := p) hln hN hc hp N 0 (upm σ 386 3 (p : Int)) (by omega) (by omega) (by rw [upm_cell (by decide)]; exact h1) (by rw [upm_cell (by decide)]; exact h2) (by rw [e387]; exact hs) (by rw [upm_same]; exact ⟨Int.le_refl _, fun k' h => by omega, Or.inl rfl⟩)
  rw [e387] at s2
  refine ⟨s, f0.trans s1, ?_⟩
  unfold f_X9_readCommand
  rw [bl_eq]
  rcases s2 with ⟨k, e, a1, a2, a3, a4⟩ | ⟨a1, a2⟩
  · refine Or.inl ⟨k, e, a1, a2, ?_, a4⟩
    rw [show f_X9_readCommand_7 N 386 p N (upm σ 386 3 (p : Int)) 0 = _ from a3]; rfl
  · refine Or.inr ⟨?_, a2⟩
    rw [show f_X9_readCommand_7 N 386 p N (upm σ 386 3 (p : Int)) 0 = _ from a1]; rfl
end RF
