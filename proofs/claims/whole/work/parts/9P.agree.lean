/-! agreement of class and model, part 9P -/
/-! the script's text in the model -/
def wdL : List (List Int) := [[115, 116, 111, 112], [119, 97, 108, 107], [108, 105, 110, 101], [97, 100, 100], [99, 117, 116], [114, 97, 105, 110], [100, 114, 121], [99, 108, 111, 115, 101], [111, 112, 101, 110], [104, 97, 108, 116], [103, 111], [115, 101, 108, 108], [114, 101, 102, 117, 110, 100], [119, 97, 105, 116]]
def rsL : List (List Int) := [[32, 35], [32, 35, 45, 35, 32, 64], [32, 64, 47, 64, 32, 35, 120, 64], [32, 35, 32, 35], [32, 35], [], [], [32, 35], [32, 35], [32, 35], [32, 35], [32, 35, 32, 64, 32, 35, 62, 35], [32, 64], [32, 64]]
def wd (k : Nat) : List Int := wdL.getD k []
def rs (k : Nat) : List Int := rsL.getD k []
def lcp (sg : Ga) (ln : Nat) : List Int → Nat → Nat
  | [], _ => 0
  | c :: w, p => if p < ln ∧ sg p = c then 1 + lcp sg ln w (p + 1) else 0
def mRd (sg : Ga) (ln cnt : Nat) (s : Sm) (r : Nat ⊕ Nat) : Prop := s 18 0 = (ln : Int) ∧ (∀ i, i < ln → s 8 i = sg i) ∧ s 20 0 = (cnt : Int) ∧ match r with
  | .inl p => s 21 0 = 0 ∧ s 19 0 = (p : Int) ∧ p ≤ ln
  | .inr p => s 21 0 = 1 ∧ s 19 0 = (p : Int) ∧ p ≤ ln
def RDM (sg : Ga) (ln cnt : Nat) (l : List Int) (s0 : Sm) (r0 : Nat ⊕ Nat) (s : Sm) : Prop := mRd sg ln cnt s (rdl sg ln l r0) ∧ (∀ q, q < nvt l → s 10 (4 * cnt + q) = (vls sg ln l r0).getD q 0) ∧ (∀ i, i < 4 * cnt → s 10 i = s0 10 i) ∧ ∀ r, r ≠ 10 → r ≠ 19 → r ≠ 21 → s r = s0 r
def mkv (sg : Ga) (ln : Nat) (r : Nat ⊕ Nat) : Int := match r with
  | .inl p => if p < ln then sg p else -1
  | .inr _ => -1
section MP
variable {sg : Ga} {ln cnt N p : Nat} {s s0 : Sm} {r r0 : Nat ⊕ Nat} {l : List Int}
theorem frm_wr : ∀ k, k < 14 → frm k = wd k ++ rs k := by decide
theorem wd_ok : ∀ k, k < 14 → 2 ≤ (wd k).length ∧ (wd k).length ≤ 6 ∧ ∀ c ∈ wd k, 0 < c ∧ c ≠ 35 ∧ c ≠ 64 := by decide
theorem wd_df : ∀ k, k < 14 → ∀ k', k' < 14 → k ≠ k' → ∃ i, i < 6 ∧ i < (wd k).length ∧ i < (wd k').length ∧ (wd k).getD i 0 ≠ (wd k').getD i 0 := by decide
theorem sp_ok : ∀ k : Nat, k < 14 → ∀ j : Nat, j < 7 → f_X13_spelled (k : Int) (j : Int) = some ((wd k).getD j 0) := by decide
theorem m_mark (h : mRd sg ln cnt s r) (hln : ln ≤ 60) : f_X13_mark s = some (mkv sg ln r) := by
  obtain ⟨h1, h2, h3, h4⟩ := h
  unfold f_X13_mark
  cases r with
  | inl p =>
    obtain ⟨h5, h6, h7⟩ := h4
    show _ = some (if p < ln then sg p else -1)
    rw [if_pos h5, h1, h6]
    by_cases q : p < ln
    · rw [if_neg (by omega), if_pos (by omega), if_pos q, Int.toNat_natCast, h2 p q]
    · rw [if_pos (by omega), if_neg q]
  | inr p =>
    obtain ⟨h5, h6, h7⟩ := h4
    rw [if_neg (by omega)]; rfl
theorem mRd.up {s' : Sm} (h : mRd sg ln cnt s r) (hf : ∀ q, q ≠ 10 → q ≠ 19 → q ≠ 21 → s' q = s q) {r' : Nat ⊕ Nat} (h' : match r' with
    | .inl p => s' 21 0 = 0 ∧ s' 19 0 = (p : Int) ∧ p ≤ ln
    | .inr p => s' 21 0 = 1 ∧ s' 19 0 = (p : Int) ∧ p ≤ ln) : mRd sg ln cnt s' r' := by
  obtain ⟨h1, h2, h3, h4⟩ := h
  refine ⟨by rw [hf 18 (by decide) (by decide) (by decide)]; exact h1, fun i hi => by rw [hf 8 (by decide) (by decide) (by decide)]; exact h2 i hi, by rw [hf 20 (by decide) (by decide) (by decide)]; exact h3, h'⟩
theorem m_expect (h : mRd sg ln cnt s r) (hln : ln ≤ 60) {c : Int} (hc : 0 ≤ c ∧ c ≠ 35 ∧ c ≠ 64) : ∃ s', f_X13_expect s c = some s' ∧ mRd sg ln cnt s' (stt sg ln c r) ∧ ∀ q, q ≠ 19 → q ≠ 21 → s' q = s q := by
  have mk := m_mark h hln
  have h0 := h
  obtain ⟨h1, h2, h3, h4⟩ := h
  unfold f_X13_expect
  rw [mk, Option.bind_some]
  have b00 : bit (ior 0 0) := by decide
  have b01 : bit (ior 0 1) := by decide
  have b11 : bit (ior 1 1) := by decide
  have i00 : ior 0 0 = 0 := rfl
  have i01 : ior 0 1 = 1 := rfl
  have i11 : ior 1 1 = 1 := rfl
  cases r with
  | inl p =>
    obtain ⟨h5, h6, h7⟩ := h4
    show ∃ s', (if (if p < ln then sg p else -1) = c then _ else _) = some s' ∧ _
    have es : stt sg ln c (.inl p) = if p < ln ∧ sg p = c then .inl (p + 1) else .inr p := by
      show (if eoT sg ln c p = p then Sum.inr p else Sum.inl (eoT sg ln c p)) = _
      unfold eoT
      rw [if_neg hc.2.1, if_neg hc.2.2]
      by_cases q : p < ln ∧ sg p = c
      · rw [if_pos q, if_neg (by omega), if_pos q]
      · rw [if_neg q, if_pos rfl, if_neg q]
    by_cases q : p < ln ∧ sg p = c
    · rw [if_pos q.1, if_pos q.2, h5, if_pos (by decide), if_pos b00, bl_eq, i00, upm_same, if_pos rfl, upm_role (by decide), h6, if_pos (by unfold rng; omega), bl_eq]
      have fr : ∀ q, q ≠ 19 → q ≠ 21 → upm (upm s 21 0 0) 19 0 ((p : Int) + 1) q = s q := fun q a b => by rw [upm_role a, upm_role b]
      refine ⟨_, rfl, ?_, fr⟩
      rw [es, if_pos q]
      refine h0.up (fun q _ a b => fr q a b) ?_
      exact ⟨by rw [upm_role (by decide), upm_same], by rw [upm_same]; omega, by omega⟩
    · have hn : ¬ (if p < ln then sg p else -1) = c := by
        intro e
        by_cases q1 : p < ln
        · rw [if_pos q1] at e; exact q ⟨q1, e⟩
        · rw [if_neg q1] at e; omega
      rw [if_neg hn, h5, if_pos (by decide), if_pos b01, bl_eq, i01, upm_same, if_neg (by decide), upm_role (by decide), h6, if_pos (by unfold rng; omega), bl_eq]
      have fr : ∀ q, q ≠ 19 → q ≠ 21 → upm (upm s 21 0 1) 19 0 ((p : Int) + 0) q = s q := fun q a b => by rw [upm_role a, upm_role b]
      refine ⟨_, rfl, ?_, fr⟩
      rw [es, if_neg q]
      refine h0.up (fun q _ a b => fr q a b) ?_
      exact ⟨by rw [upm_role (by decide), upm_same], by rw [upm_same]; omega, h7⟩
  | inr p =>
    obtain ⟨h5, h6, h7⟩ := h4
    show ∃ s', (if (-1 : Int) = c then _ else _) = some s' ∧ _
    rw [if_neg (by omega), h5, if_pos (by decide), if_pos b11, bl_eq, i11, upm_same, if_neg (by decide), upm_role (by decide), h6, if_pos (by unfold rng; omega), bl_eq]
    have fr : ∀ q, q ≠ 19 → q ≠ 21 → upm (upm s 21 0 1) 19 0 ((p : Int) + 0) q = s q := fun q a b => by rw [upm_role a, upm_role b]
    refine ⟨_, rfl, ?_, fr⟩
    refine h0.up (fun q _ a b => fr q a b) ?_
    exact ⟨by rw [upm_role (by decide), upm_same], by rw [upm_same]; omega, h7⟩
theorem m_n32 (hln : ln ≤ 60) : ∀ (m p x3 n : Nat) (s : Sm) (a : Int), m < n → x3 + m ≤ 3 → 0 ≤ a ∧ a ≤ (if x3 = 0 then 0 else if x3 = 1 then 9 else if x3 = 2 then 99 else 999) → mRd sg ln cnt s (.inl p) → ∃ s', f_X13_number_32 ((x3 + m : Nat) : Int) n s a x3 = some (s', nvl sg (eod sg ln m p - p) p a) ∧ mRd sg ln cnt s' (.inl (eod sg ln m p)) ∧ ∀ q, q ≠ 19 → s' q = s q := by
  intro m
  induction m with
  | zero =>
    intro p x3 n s a hn hx ha h
    obtain ⟨n, rfl⟩ : ∃ k, n = k + 1 := ⟨n - 1, by omega⟩
    rw [f_X13_number_32, if_pos (by omega)]
    refine ⟨s, ?_, h, fun _ _ => rfl⟩
    show _ = some (s, nvl sg (p - p) p a)
    rw [Nat.sub_self]; rfl
  | succ m ih =>
    intro p x3 n s a hn hx ha h
    obtain ⟨n, rfl⟩ : ∃ k, n = k + 1 := ⟨n - 1, by omega⟩
    have mk := m_mark h hln
    have h0 := h
    obtain ⟨h1, h2, h3, h5, h6, h7⟩ := h
    rw [f_X13_number_32, if_neg (by omega), mk, Option.bind_some, m_in, Option.bind_some]
    unfold eod
    by_cases q : p < ln ∧ 48 ≤ sg p ∧ sg p ≤ 57
    · have hin : 48 ≤ (if p < ln then sg p else -1) ∧ (if p < ln then sg p else -1) ≤ 57 := by rw [if_pos q.1]; exact q.2
      show ∃ s', (if (if 48 ≤ (if p < ln then sg p else -1) ∧ (if p < ln then sg p else -1) ≤ 57 then (1 : Int) else 0) = 0 then _ else _) = some (s', _) ∧ _
      rw [if_pos hin, if_neg (by decide), h6, if_pos (by omega), Int.toNat_natCast, h2 p q.1, bl_eq, if_pos (by unfold rng; omega), bl_eq]
      have hb : 0 ≤ 10 * a + sg p - 48 ∧ 10 * a + sg p - 48 ≤ (if x3 + 1 = 0 then 0 else if x3 + 1 = 1 then 9 else if x3 + 1 = 2 then 99 else 999) := by
        have hx3 : x3 = 0 ∨ x3 = 1 ∨ x3 = 2 := by omega
        rcases hx3 with rfl | rfl | rfl <;> simp at ha ⊢ <;> omega
      rw [if_pos (by have : (if x3 + 1 = 0 then (0 : Int) else if x3 + 1 = 1 then 9 else if x3 + 1 = 2 then 99 else 999) ≤ 999 := by (repeat' split) <;> omega
                     unfold rng; omega)]
      have fr : ∀ q, q ≠ 19 → upm s 19 0 ((p : Int) + 1) q = s q := fun q a => upm_role a
      obtain ⟨s', e1, e2, e3⟩ := ih (p + 1) (x3 + 1) n (upm s 19 0 ((p : Int) + 1)) (10 * a + sg p - 48) (by omega) (by omega) hb (h0.up (fun q _ a _ => fr q a) ⟨by rw [upm_role (by decide)]; exact h5, by rw [upm_same]; omega, by omega⟩)
      rw [show x3 + 1 + m = x3 + (m + 1) by omega] at e1
      refine ⟨s', ?_, by rw [if_pos q]; exact e2, fun q hq => (e3 q hq).trans (fr q hq)⟩
      have le := eod_le sg ln m (p + 1)
      rw [if_pos q]
      show f_X13_number_32 ((x3 + (m + 1) : Nat) : Int) n _ (10 * a + sg p - 48) ((x3 : Int) + 1) = _
      rw [show (x3 : Int) + 1 = ((x3 + 1 : Nat) : Int) by omega, e1, show eod sg ln m (p + 1) - p = (eod sg ln m (p + 1) - (p + 1)) + 1 by omega]
      show _ = some (s', nvl sg (eod sg ln m (p + 1) - (p + 1)) (p + 1) (a * 10 + (sg p - 48)))
      rw [show a * 10 + (sg p - 48) = 10 * a + sg p - 48 by omega]
    · have hin : ¬ (48 ≤ (if p < ln then sg p else -1) ∧ (if p < ln then sg p else -1) ≤ 57) := by
        intro e
        by_cases q1 : p < ln
        · rw [if_pos q1] at e; exact q ⟨q1, e⟩
        · rw [if_neg q1] at e; omega
      show ∃ s', (if (if 48 ≤ (if p < ln then sg p else -1) ∧ (if p < ln then sg p else -1) ≤ 57 then (1 : Int) else 0) = 0 then _ else _) = some (s', _) ∧ _
      rw [if_neg hin, if_pos rfl, if_neg q, Nat.sub_self]
      exact ⟨s, rfl, h0, fun _ _ => rfl⟩
theorem m_number (h : mRd sg ln cnt s r) (hln : ln ≤ 60) (hN : 10 < N) {c : Int} {m : Nat} (hc : (c = 35 ∧ m = 1) ∨ (c = 64 ∧ m = 3)) : ∃ s', f_X13_number N s (m : Int) = some (s', vot sg ln c r) ∧ mRd sg ln cnt s' (stt sg ln c r) ∧ ∀ q, q ≠ 19 → q ≠ 21 → s' q = s q := by
  have mk := m_mark h hln
  have h0 := h
  obtain ⟨h1, h2, h3, h4⟩ := h
  unfold f_X13_number
  rw [mk, Option.bind_some, m_in, Option.bind_some]
  have b00 : bit (ior 0 0) := by decide
  have b01 : bit (ior 0 1) := by decide
  have b11 : bit (ior 1 1) := by decide
  have i00 : ior 0 0 = 0 := rfl
  have i01 : ior 0 1 = 1 := rfl
  have i11 : ior 1 1 = 1 := rfl
  have hm : 1 ≤ m ∧ m ≤ 3 := by omega
  -- a broken text: nothing is read
  have brk : ∀ (t : Sm) (q : Nat), mRd sg ln cnt t (.inr q) → f_X13_number_32 (m : Int) N t 0 0 = some (t, 0) := fun t q ht => by
    obtain ⟨n, rfl⟩ : ∃ k, N = k + 1 := ⟨N - 1, by omega⟩
    rw [f_X13_number_32, if_neg (by omega), m_mark ht hln, Option.bind_some, m_in, Option.bind_some]
    show (if (if (48 : Int) ≤ -1 ∧ (-1 : Int) ≤ 57 then (1 : Int) else 0) = 0 then _ else _) = _
    rw [if_pos (by decide)]
  cases r with
  | inl p =>
    obtain ⟨h5, h6, h7⟩ := h4
    have ee : eoT sg ln c p = eod sg ln m p := by
      unfold eoT
      rcases hc with ⟨rfl, rfl⟩ | ⟨rfl, rfl⟩
      · rw [if_pos rfl]
      · rw [if_neg (by decide), if_pos rfl]
    have hv : vot sg ln c (.inl p) = nvl sg (eod sg ln m p - p) p 0 := by
      show nvl sg (eoT sg ln c p - p) p 0 = _
      rw [ee]
    have hs : stt sg ln c (.inl p) = if eod sg ln m p = p then .inr p else .inl (eod sg ln m p) := by
      show (if eoT sg ln c p = p then Sum.inr p else Sum.inl (eoT sg ln c p)) = _
      rw [ee]
    show ∃ s', (if (if 48 ≤ (if p < ln then sg p else -1) ∧ (if p < ln then sg p else -1) ≤ 57 then (1 : Int) else 0) = 0 then _ else _) = some (s', _) ∧ _
    obtain ⟨m', rfl⟩ : ∃ k, m = k + 1 := ⟨m - 1, by omega⟩
    by_cases q : p < ln ∧ 48 ≤ sg p ∧ sg p ≤ 57
    · have hin : 48 ≤ (if p < ln then sg p else -1) ∧ (if p < ln then sg p else -1) ≤ 57 := by rw [if_pos q.1]; exact q.2
      have hne : eod sg ln (m' + 1) p ≠ p := by
        unfold eod
        rw [if_pos q]
        have := eod_le sg ln m' (p + 1)
        omega
      rw [if_pos hin, if_neg (by decide), h5, if_pos (by decide), if_pos b00, bl_eq, i00]
      have fr : ∀ q, q ≠ 21 → upm s 21 0 0 q = s q := fun q a => upm_role a
      have hx := h0.up (s' := upm s 21 0 0) (r' := .inl p) (fun q _ _ a => fr q a) ⟨upm_same _ _ _ _, by rw [upm_role (by decide)]; exact h6, h7⟩
      obtain ⟨s', e1, e2, e3⟩ := m_n32 hln (m' + 1) p 0 N _ 0 (by omega) (by omega) (by simp) hx
      rw [Nat.zero_add] at e1
      rw [show f_X13_number_32 ((m' + 1 : Nat) : Int) N (upm s 21 0 0) 0 0 = _ from e1, Option.bind_some, hv, hs, if_neg hne]
      exact ⟨s', rfl, e2, fun q a b => (e3 q a).trans (fr q b)⟩
    · have hin : ¬ (48 ≤ (if p < ln then sg p else -1) ∧ (if p < ln then sg p else -1) ≤ 57) := by
        intro e
        by_cases q1 : p < ln
        · rw [if_pos q1] at e; exact q ⟨q1, e⟩
        · rw [if_neg q1] at e; omega
      have he : eod sg ln (m' + 1) p = p := by
        unfold eod
        rw [if_neg q]
      have fr : ∀ q, q ≠ 21 → upm s 21 0 1 q = s q := fun q a => upm_role a
      have hx := h0.up (s' := upm s 21 0 1) (r' := .inr p) (fun q _ _ a => fr q a) ⟨upm_same _ _ _ _, by rw [upm_role (by decide)]; exact h6, h7⟩
      rw [if_neg hin, if_pos rfl, h5, if_pos (by decide), if_pos b01, bl_eq, i01, brk _ _ hx, Option.bind_some, hv, hs, he, if_pos rfl, Nat.sub_self]
      exact ⟨_, rfl, hx, fun q _ b => fr q b⟩
  | inr p =>
    obtain ⟨h5, h6, h7⟩ := h4
    show ∃ s', (if (if (48 : Int) ≤ -1 ∧ (-1 : Int) ≤ 57 then (1 : Int) else 0) = 0 then _ else _) = some (s', _) ∧ _
    have fr : ∀ q, q ≠ 21 → upm s 21 0 1 q = s q := fun q a => upm_role a
    have hx := h0.up (s' := upm s 21 0 1) (r' := .inr p) (fun q _ _ a => fr q a) ⟨upm_same _ _ _ _, by rw [upm_role (by decide)]; exact h6, h7⟩
    have hn : ¬ ((48 : Int) ≤ -1 ∧ (-1 : Int) ≤ 57) := by decide
    rw [if_neg hn, if_pos rfl, h5, if_pos (by decide), if_pos b11, bl_eq, i11, brk _ _ hx, Option.bind_some]
    exact ⟨_, rfl, hx, fun q _ b => fr q b⟩
/-- readings of the arguments, token by token -/
theorem RDM.nil (h : mRd sg ln cnt s r) : RDM sg ln cnt [] s r s := ⟨h, fun q hq => absurd hq (Nat.not_lt_zero q), fun _ _ => rfl, fun _ _ _ _ => rfl⟩
theorem nvt_ap (l m : List Int) : nvt (l ++ m) = nvt l + nvt m := by unfold nvt; rw [List.filter_append, List.length_append]
theorem RDM.ex (h : RDM sg ln cnt l s0 r0 s) (hln : ln ≤ 60) {c : Int} (hc : 0 ≤ c ∧ c ≠ 35 ∧ c ≠ 64) : ∃ s', f_X13_expect s c = some s' ∧ RDM sg ln cnt (l ++ [c]) s0 r0 s' := by
  obtain ⟨h1, h2, h3, h4⟩ := h
  obtain ⟨s', e1, e2, e3⟩ := m_expect h1 hln hc
  have nv : isV c = false := by unfold isV; simp [hc.2.1, hc.2.2]
  refine ⟨s', e1, ?_, fun q hq => ?_, fun i hi => by rw [e3 10 (by decide) (by decide)]; exact h3 i hi, fun q a b d => (e3 q b d).trans (h4 q a b d)⟩
  · rw [rdl_ap]; exact e2
  · have hq' : q < nvt l := by
      rw [nvt_ap] at hq
      have : nvt [c] = 0 := by unfold nvt; simp [nv]
      omega
    have hv : vls sg ln (l ++ [c]) r0 = vls sg ln l r0 := by
      rw [vls_ap]
      show _ ++ (if isV c then _ else _) = _
      rw [if_neg (by rw [nv]; decide)]
      exact List.append_nil _
    rw [hv, e3 10 (by decide) (by decide)]; exact h2 q hq'
theorem RDM.nm (h : RDM sg ln cnt l s0 r0 s) (hln : ln ≤ 60) (hN : 10 < N) {c : Int} {m j : Nat} (hc : (c = 35 ∧ m = 1) ∨ (c = 64 ∧ m = 3)) (hj : nvt l = j) (hj4 : j < 4) (hcn : cnt ≤ 20) : ∃ s1 v s', f_X13_number N s (m : Int) = some (s1, v) ∧ f_X13_put s1 (j : Int) v = some s' ∧ RDM sg ln cnt (l ++ [c]) s0 r0 s' := by
  obtain ⟨h1, h2, h3, h4⟩ := h
  obtain ⟨s1, e1, e2, e3⟩ := m_number (N := N) h1 hln hN hc
  have nv : isV c = true := by unfold isV; rcases hc with ⟨rfl, -⟩ | ⟨rfl, -⟩ <;> rfl
  have c20 : s1 20 0 = (cnt : Int) := e2.2.2.1
  have fr : ∀ q, q ≠ 10 → q ≠ 19 → q ≠ 21 → upm s1 10 (4 * cnt + j) (vot sg ln c (rdl sg ln l r0)) q = s q := fun q a b d => by rw [upm_role a]; exact e3 q b d
  refine ⟨s1, _, upm s1 10 (4 * cnt + j) (vot sg ln c (rdl sg ln l r0)), e1, ?_, ?_, fun q hq => ?_, fun i hi => ?_, fun q a b d => (fr q a b d).trans (h4 q a b d)⟩
  · unfold f_X13_put
    rw [c20, if_pos (by omega), show ((4 * (cnt : Int)) + j).toNat = 4 * cnt + j by omega, bl_eq]
  · rw [rdl_ap]
    obtain ⟨a1, a2, a3, a4⟩ := e2
    refine ⟨by rw [upm_role (by decide)]; exact a1, fun i hi => by rw [upm_role (by decide)]; exact a2 i hi, by rw [upm_role (by decide)]; exact a3, ?_⟩
    rw [upm_role (by decide), upm_role (by decide)]; exact a4
  · have n1 : nvt [c] = 1 := by unfold nvt; simp [nv]
    rw [nvt_ap, n1] at hq
    have hv : vls sg ln (l ++ [c]) r0 = vls sg ln l r0 ++ [vot sg ln c (rdl sg ln l r0)] := by
      rw [vls_ap]
      show _ ++ (if isV c then _ else _) = _
      rw [if_pos nv]; rfl
    have len := vls_len sg ln l r0
    rw [hv]
    by_cases e : q = j
    · subst e
      rw [upm_same, List.getD_eq_getElem?_getD, List.getElem?_append_right (by omega), len, hj, Nat.sub_self]; rfl
    · rw [upm_cell (by omega), e3 10 (by decide) (by decide), h2 q (by omega), List.getD_eq_getElem?_getD, List.getD_eq_getElem?_getD, List.getElem?_append_left (by omega)]
  · rw [upm_cell (by omega), e3 10 (by decide) (by decide)]; exact h3 i hi
end MP
