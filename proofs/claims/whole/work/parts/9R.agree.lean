/-! agreement of class and model, part 9R -/
/-! both parse alike -/
def PRel (c : Nat) (σ m : Sm) : Prop := ∀ i, i < c → ∃ k : Nat, k < 14 ∧ σ 388 i = (k : Int) ∧ m 9 i = (k : Int) ∧ ∀ q, q < nvt (frm k) → σ 389 (4 * i + q) = m 10 (4 * i + q)
def FP (σ s : Sm) : Prop := (∀ r, r ≠ 386 → r ≠ 388 → r ≠ 389 → s r = σ r) ∧ ∀ i, i ≠ 2 → i ≠ 3 → s 386 i = σ 386 i
def FMp (m m' : Sm) : Prop := ∀ r, r ≠ 9 → r ≠ 10 → r ≠ 19 → r ≠ 20 → r ≠ 21 → m' r = m r
section PA
variable {sg : Ga} {ln cnt N p : Nat} {σ s m μ : Sm}
theorem nvt_wd : ∀ k, k < 14 → nvt (wd k) = 0 := by decide
theorem vls_frm {k : Nat} (hk : k < 14) (h : lcp sg ln (wd k) p = (wd k).length) : vls sg ln (frm k) (.inl p) = vls sg ln (rs k) (.inl (p + (wd k).length)) ∧ rdl sg ln (frm k) (.inl p) = rdl sg ln (rs k) (.inl (p + (wd k).length)) ∧ nvt (frm k) = nvt (rs k) := by
  have hr := rdl_word sg ln (wd k) p (wd_ok k hk).2.2
  rw [if_pos h] at hr
  have hv : vls sg ln (wd k) (.inl p) = [] := by
    have := vls_len sg ln (wd k) (.inl p)
    rw [nvt_wd k hk] at this
    exact List.eq_nil_of_length_eq_zero this
  rw [frm_wr k hk]
  refine ⟨?_, ?_, ?_⟩
  · rw [vls_ap, hr, hv]; rfl
  · rw [rdl_ap, hr]
  · rw [nvt_ap, nvt_wd k hk, Nat.zero_add]
theorem FMp.refl (m : Sm) : FMp m m := fun _ _ _ _ _ _ => rfl
theorem FMp.trans {a b c : Sm} (h : FMp a b) (h2 : FMp b c) : FMp a c := fun r x y z u v => (h2 r x y z u v).trans (h r x y z u v)
/-- counting a command that was read -/
theorem m_cnt {e k : Nat} (h : mRd sg ln cnt s (.inl e)) (hc : cnt ≤ 15) : ∃ s', (if 0 ≤ (s 20 0) ∧ (s 20 0) < 32 then bl (upm s 9 (s 20 0).toNat (k : Int)) fun s7 => if rng ((s7 20 0) + 1) then bl (upm s7 20 0 ((s7 20 0) + 1)) fun s10 => some s10 else none else none) = some s' ∧ mRd sg ln (cnt + 1) s' (.inl e) ∧ s' 9 cnt = (k : Int) ∧ (∀ i, i ≠ cnt → s' 9 i = s 9 i) ∧ ∀ r, r ≠ 9 → r ≠ 20 → s' r = s r := by
  obtain ⟨h1, h2, h3, h5, h6, h7⟩ := h
  have fr : ∀ r, r ≠ 9 → r ≠ 20 → upm (upm s 9 cnt (k : Int)) 20 0 ((cnt : Int) + 1) r = s r := fun r a b => by rw [upm_role b, upm_role a]
  refine ⟨upm (upm s 9 cnt (k : Int)) 20 0 ((cnt : Int) + 1), ?_, ⟨by rw [fr 18 (by decide) (by decide)]; exact h1, fun i hi => by rw [fr 8 (by decide) (by decide)]; exact h2 i hi, by rw [upm_same]; omega, by rw [fr 21 (by decide) (by decide)]; exact h5, by rw [fr 19 (by decide) (by decide)]; exact h6, h7⟩, by rw [upm_role (by decide), upm_same], fun i hi => by rw [upm_role (by decide), upm_cell hi], fr⟩
  rw [h3, if_pos (by omega), Int.toNat_natCast, bl_eq, upm_role (by decide), h3, if_pos (by unfold rng; omega), bl_eq]
theorem m_command (h : mRd sg ln cnt s (.inl p)) (hln : ln ≤ 60) (hN : 20 < N) (hc : cnt ≤ 15) : ∃ s', f_X13_command N s = some s' ∧ FMp s s' ∧ (∀ i, i < cnt → s' 9 i = s 9 i) ∧ (∀ i, i < 4 * cnt → s' 10 i = s 10 i) ∧ ((∃ k e, k < 14 ∧ rdl sg ln (frm k) (.inl p) = .inl e ∧ mRd sg ln (cnt + 1) s' (.inl e) ∧ s' 9 cnt = (k : Int) ∧ (∀ q, q < nvt (frm k) → s' 10 (4 * cnt + q) = (vls sg ln (frm k) (.inl p)).getD q 0) ∧ ∀ k' e', k' < 14 → rdl sg ln (frm k') (.inl p) = .inl e' → k' = k) ∨ (∃ q : Nat, mRd sg ln cnt s' (.inr q) ∧ EP sg ln p 14 (q : Int) ∧ ∀ k, k < 14 → ∃ q' : Nat, rdl sg ln (frm k) (.inl p) = .inr q')) := by
  obtain ⟨s1, r1, f1, m1, hw⟩ := m_word (N := N) h hln hN
  unfold f_X13_command
  rcases hw with ⟨k, k1, k2, k3, rfl⟩ | ⟨b, b1, b2, rfl⟩
  · obtain ⟨v1, v2, v3⟩ := vls_frm k1 k2
    have only : ∀ k' e', k' < 14 → rdl sg ln (frm k') (.inl p) = .inl e' → k' = k := fun k' e' a b => by
      by_cases e : k = k'
      · exact e.symm
      · rw [(rdl_other k1 a e k2).2] at b; cases b
    rw [k3, Option.bind_some]
    dsimp only
    by_cases q5 : k = 5 ∨ k = 6
    · have r0 : rs k = [] := by rcases q5 with rfl | rfl <;> rfl
      rw [r0] at v1 v2 v3
      obtain ⟨s2, e1, e2, e3, e4, e5⟩ := m_cnt (k := k) m1 hc
      have br : s1 21 0 = 0 := m1.2.2.2.1
      refine ⟨s2, ?_, fun r a b c d e => (e5 r a d).trans (f1 r c e), fun i hi => by rw [e4 i (by omega)]; rw [f1 9 (by decide) (by decide)], fun i hi => by rw [e5 10 (by decide) (by decide), f1 10 (by decide) (by decide)], Or.inl ⟨k, _, k1, v2, e2, e3, fun q hq => ?_, only⟩⟩
      · rcases q5 with rfl | rfl
        · rw [if_pos (by decide), if_pos br]; exact e1
        · rw [if_neg (by decide), if_pos (by decide), if_pos br]; exact e1
      · rw [v3] at hq; exact absurd hq (Nat.not_lt_zero q)
    · obtain ⟨s2, e1, g1, g2, g3, g4⟩ := m_args (N := N) m1 hln (by omega) (by omega) k1 (fun e => q5 (Or.inl e)) (fun e => q5 (Or.inr e))
      rw [if_neg (by omega), if_neg (by omega), e1, Option.bind_some]
      rw [← v2] at g1
      cases hr : rdl sg ln (frm k) (.inl p) with
      | inl e =>
        rw [hr] at g1
        have br : s2 21 0 = 0 := g1.2.2.2.1
        obtain ⟨s3, c1, c2, c3, c4, c5⟩ := m_cnt (k := k) g1 hc
        rw [if_pos br]
        refine ⟨s3, c1, fun r a b c d e => (c5 r a d).trans ((g4 r b c e).trans (f1 r c e)), fun i hi => by rw [c4 i (by omega), g4 9 (by decide) (by decide) (by decide), f1 9 (by decide) (by decide)], fun i hi => by rw [c5 10 (by decide) (by decide), g3 i hi, f1 10 (by decide) (by decide)], Or.inl ⟨k, e, k1, hr, c2, c3, fun q hq => ?_, only⟩⟩
        obtain ⟨u1, u2, u3⟩ := vls_frm (sg := sg) (ln := ln) (p := p) k1 k2
        rw [u3] at hq
        rw [c5 10 (by decide) (by decide), g2 q hq, u1]
      | inr q =>
        rw [hr] at g1
        have br : ¬ s2 21 0 = 0 := by have := g1.2.2.2.1; omega
        rw [if_neg br]
        refine ⟨s2, rfl, fun r a b c d e => (g4 r b c e).trans (f1 r c e), fun i hi => by rw [g4 9 (by decide) (by decide) (by decide), f1 9 (by decide) (by decide)], fun i hi => by rw [g3 i hi, f1 10 (by decide) (by decide)], Or.inr ⟨q, g1, EP.word k1 k2 hr, fun k' hk' => ?_⟩⟩
        by_cases e : k = k'
        · subst e; exact ⟨q, hr⟩
        · exact ⟨_, (rdl_other k1 hk' e k2).2⟩
  · obtain ⟨s2, e1, g1, g2, g3, g4⟩ := m_args (N := N) m1 hln (by omega) (by omega) (k := 0) (by decide) (by decide) (by decide)
    rw [rdl_inr] at g1
    have br : ¬ s2 21 0 = 0 := by have := g1.2.2.2.1; omega
    obtain ⟨n1, n2⟩ := EP.none b1
    refine ⟨s2, ?_, fun r a b c d e => (g4 r b c e).trans (f1 r c e), fun i hi => by rw [g4 9 (by decide) (by decide) (by decide), f1 9 (by decide) (by decide)], fun i hi => by rw [g3 i hi, f1 10 (by decide) (by decide)], Or.inr ⟨p + b, g1, n1, n2⟩⟩
    rw [b2, Option.bind_some]
    dsimp only
    rw [if_neg (by decide), if_neg (by decide), show f_X13_readsArguments N s1 0 = _ from e1, Option.bind_some, if_neg br]
theorem parse_loop (hln : ln ≤ 60) (hN : 30 < N) : ∀ (n c p : Nat) (σ m : Sm), 16 - c < n → 4 * c ≤ p → p ≤ ln → σ 386 1 = (ln : Int) → σ 386 2 = (c : Int) → (∀ i, i < ln → 32 ≤ σ 387 i ∧ σ 387 i ≤ 126) → mRd (σ 387) ln c m (.inl p) → PRel c σ m → ∃ σ' m', ((f_X13_command N m).bind fun s7 => f_X13_parse_32 N n s7) = some m' ∧ FP σ σ' ∧ FMp m m' ∧ ((∃ c' : Nat, c' ≤ 15 ∧ f_X9_parse_12 N 386 n σ p = some (.inl (σ', 1)) ∧ mRd (σ 387) ln c' m' (.inl ln) ∧ σ' 386 2 = (c' : Int) ∧ PRel c' σ' m') ∨ (∃ E : Nat, f_X9_parse_12 N 386 n σ p = some (.inl (σ', 0)) ∧ σ' 386 3 = (E : Int) ∧ ((∃ c' : Nat, mRd (σ 387) ln c' m' (.inr E)) ∨ ∃ c' : Nat, E < ln ∧ mRd (σ 387) ln c' m' (.inl E)))) := by
  intro n
  induction n with
  | zero => intro c p σ m h; omega
  | succ n ih =>
    intro c p σ m hn hcp hp h1 h2 hs hm pr
    have hc : c ≤ 15 := by omega
    obtain ⟨σ1, s1, s2⟩ := c_readCommand (N := N) hln hN hc hp h1 h2 hs
    obtain ⟨m1, a1, a2, a3, a4, a5⟩ := m_command (N := N) hm hln (by omega) hc
    have f387 : σ1 387 = σ 387 := s1.1 387 (by decide) (by decide) (by decide)
    have c1 : σ1 386 1 = (ln : Int) := by rw [s1.2.1 1 (by decide)]; exact h1
    have c2 : σ1 386 2 = (c : Int) := by rw [s1.2.1 2 (by decide)]; exact h2
    rw [a1, Option.bind_some, f_X9_parse_12, h2, if_neg (by omega)]
    rcases s2 with ⟨k, e, k1, k2, k3, k4, k5⟩ | ⟨k1, k2⟩
    · rcases a5 with ⟨k', e', b1, b2, b3, b4, b5, b6⟩ | ⟨q, b1, b2, b3⟩
      · have ek : k = k' := b6 k e k1 k2
        subst ek
        rw [k2] at b2
        have ee : e = e' := by injection b2
        subst ee
        obtain ⟨f1, f2, f3, f4⟩ := frm_ok k k1
        obtain ⟨l1, l2, l3⟩ := rdl_le (σ 387) ln (frm k) p
        have le := l1 e k2
        have eln := (l3 hp).1 e k2
        obtain ⟨X, hX⟩ : ∃ X, X = upm σ1 386 2 ((c : Int) + 1) := ⟨_, rfl⟩
        have x387 : X 387 = σ 387 := by subst hX; rw [upm_role (by decide)]; exact f387
        have x1 : X 386 1 = (ln : Int) := by subst hX; rw [upm_cell (by decide)]; exact c1
        have x2 : X 386 2 = ((c + 1 : Nat) : Int) := by subst hX; rw [upm_same]; omega
        have xr : ∀ r, r ≠ 386 → X r = σ1 r := fun r h => by subst hX; exact upm_role h
        have fx : FP σ X := ⟨fun r a b d => (xr r a).trans (s1.1 r a b d), fun i a b => by subst hX; rw [upm_cell a]; exact s1.2.1 i b⟩
        have prx : PRel (c + 1) X m1 := fun i hi => by
          by_cases ei : i = c
          · subst ei
            refine ⟨k, k1, by rw [xr 388 (by decide)]; exact k4, b4, fun q hq => ?_⟩
            rw [xr 389 (by decide), k5 q hq, b5 q hq]
          · obtain ⟨kk, d1, d2, d3, d4⟩ := pr i (by omega)
            refine ⟨kk, d1, by rw [xr 388 (by decide), s1.2.2.1 i (by omega)]; exact d2, by rw [a3 i (by omega)]; exact d3, fun q hq => ?_⟩
            have := (frm_ok kk d1).2.1
            rw [xr 389 (by decide), s1.2.2.2 _ (by omega), a4 _ (by omega)]; exact d4 q hq
        have head : (f_X9_readCommand N σ 386 p).bind (fun (v17 : Sm × Int) => ((if v17.2 = (-1) then some (.inl (v17.1, 0)) else if rng ((v17.1 386 2) + 1) then bl (upm v17.1 386 2 ((v17.1 386 2) + 1)) fun s21 => (if v17.2 = (s21 386 1) then some (.inl (s21, 1)) else if 0 ≤ v17.2 ∧ v17.2 < 60 then (if (s21 (386 + 1) v17.2.toNat) = 59 then if rng (v17.2 + 1) then f_X9_parse_12 N 386 n s21 (v17.2 + 1) else none else bl (upm s21 386 3 v17.2) fun s28 => some (.inl (s28, 0))) else none) else none) : Option ((Sm × Int) ⊕ Sm))) = (if (e : Int) = (ln : Int) then some (.inl (X, 1)) else (if X 387 e = 59 then f_X9_parse_12 N 386 n X ((e : Int) + 1) else some (.inl (upm X 386 3 (e : Int), 0)))) := by
          rw [k3, Option.bind_some]
          show (if (e : Int) = (-1) then some (.inl (σ1, 0)) else if rng ((σ1 386 2) + 1) then (if (e : Int) = ((upm σ1 386 2 ((σ1 386 2) + 1)) 386 1) then some (.inl (upm σ1 386 2 ((σ1 386 2) + 1), 1)) else if 0 ≤ (e : Int) ∧ (e : Int) < 60 then (if ((upm σ1 386 2 ((σ1 386 2) + 1)) 387 (e : Int).toNat) = 59 then if rng ((e : Int) + 1) then f_X9_parse_12 N 386 n (upm σ1 386 2 ((σ1 386 2) + 1)) ((e : Int) + 1) else none else some (.inl (upm (upm σ1 386 2 ((σ1 386 2) + 1)) 386 3 (e : Int), 0))) else none) else none : Option ((Sm × Int) ⊕ Sm)) = _
          rw [if_neg (by omega), c2, if_pos (by unfold rng; omega), ← hX, x1]
          by_cases q : (e : Int) = (ln : Int)
          · rw [if_pos q, if_pos q]
          · rw [if_neg q, if_neg q, if_pos (by omega), Int.toNat_natCast]
            by_cases q2 : X 387 e = 59
            · rw [if_pos q2, if_pos q2, if_pos (by unfold rng; omega)]
            · rw [if_neg q2, if_neg q2]
        rw [head]
        have mk := m_mark b3 hln
        rw [f_X13_parse_32, mk, Option.bind_some]
        show ∃ σ' m', (if (if e < ln then (σ 387) e else -1) = 59 then (if rng ((m1 19 0) + 1) then bl (upm m1 19 0 ((m1 19 0) + 1)) fun s12 => (f_X13_command N s12).bind fun s13 => f_X13_parse_32 N n s13 else none) else some m1) = some m' ∧ _
        have m19 : m1 19 0 = (e : Int) := b3.2.2.2.2.1
        by_cases q : (e : Int) = (ln : Int)
        · have q' : e = ln := by omega
          subst q'
          have hn59 : ¬ (if e < e then (σ 387) e else -1) = 59 := by rw [if_neg (Nat.lt_irrefl e)]; decide
          rw [if_pos rfl, if_neg hn59]
          exact ⟨X, m1, rfl, fx, a2, Or.inl ⟨c + 1, by omega, rfl, b3, x2, prx⟩⟩
        · have elt : e < ln := by omega
          rw [if_neg q, if_pos elt, x387]
          by_cases q2 : σ 387 e = 59
          · rw [if_pos q2, if_pos q2, m19, if_pos (by unfold rng; omega), bl_eq]
            have m2 : mRd (X 387) ln (c + 1) (upm m1 19 0 ((e : Int) + 1)) (.inl (e + 1)) := by
              rw [x387]
              obtain ⟨u1, u2, u3, u4, u5, u6⟩ := b3
              exact ⟨by rw [upm_role (by decide)]; exact u1, fun i hi => by rw [upm_role (by decide)]; exact u2 i hi, by rw [upm_role (by decide)]; exact u3, by rw [upm_role (by decide)]; exact u4, by rw [upm_same]; omega, by omega⟩
            obtain ⟨σ', m', r1, r2, r3, r4⟩ := ih (c + 1) (e + 1) X (upm m1 19 0 ((e : Int) + 1)) (by omega) (by omega) (by omega) x1 x2 (by rw [x387]; exact hs) m2 (fun i hi => by
              obtain ⟨kk, d1, d2, d3, d4⟩ := prx i hi
              exact ⟨kk, d1, d2, by rw [upm_role (by decide)]; exact d3, fun q hq => by rw [upm_role (by decide)]; exact d4 q hq⟩)
            rw [x387] at r4
            refine ⟨σ', m', r1, ⟨fun r a b d => (r2.1 r a b d).trans (fx.1 r a b d), fun i a b => (r2.2 i a b).trans (fx.2 i a b)⟩, a2.trans (fun r a b d u v => ?_), r4⟩
            rw [r3 r a b d u v, upm_role d]
          · rw [if_neg q2, if_neg q2]
            refine ⟨upm X 386 3 (e : Int), m1, rfl, ⟨fun r a b d => by rw [upm_role a]; exact fx.1 r a b d, fun i a b => by rw [upm_cell b]; exact fx.2 i a b⟩, a2, Or.inr ⟨e, rfl, upm_same _ _ _ _, Or.inr ⟨c + 1, elt, b3⟩⟩⟩
      · obtain ⟨q', h⟩ := b3 k k1
        rw [k2] at h; cases h
    · rcases a5 with ⟨k', e', b1, b2, b3, b4, b5, b6⟩ | ⟨q, b1, b2, b3⟩
      · obtain ⟨q', d1, d2⟩ := k2.2.1 k' b1
        rw [b2] at d1; cases d1
      · have E := EP.uniq k2 b2
        rw [k1, Option.bind_some]
        dsimp only
        rw [if_pos rfl, f_X13_parse_32, m_mark b1 hln, Option.bind_some]
        show ∃ σ' m', (if (-1 : Int) = 59 then _ else some m1) = some m' ∧ _
        rw [if_neg (by decide)]
        exact ⟨σ1, m1, rfl, ⟨s1.1, fun i a b => s1.2.1 i b⟩, a2, Or.inr ⟨q, rfl, E, Or.inl ⟨c, b1⟩⟩⟩
/-- the texts of class and model, parsed -/
theorem parse_ok (hln : ln ≤ 60) (hN : 30 < N) (h1 : σ 386 1 = (ln : Int)) (hs : ∀ i, i < ln → 32 ≤ σ 387 i ∧ σ 387 i ≤ 126) (h17 : μ 17 0 = (ln : Int)) (h8 : ∀ i, i < ln → μ 8 i = σ 387 i) : ∃ σ' μ', f_X13_parse N μ = some μ' ∧ FP σ σ' ∧ (∀ r, r ≠ 9 → r ≠ 10 → r ≠ 17 → r ≠ 18 → r ≠ 19 → r ≠ 20 → r ≠ 21 → μ' r = μ r) ∧ μ' 17 0 = 0 ∧ ((∃ c : Nat, c ≤ 15 ∧ f_X9_parse N σ 386 = some (σ', 1) ∧ μ' 21 0 = 0 ∧ σ' 386 2 = (c : Int) ∧ μ' 20 0 = (c : Int) ∧ PRel c σ' μ') ∨ (∃ E : Nat, f_X9_parse N σ 386 = some (σ', 0) ∧ σ' 386 3 = (E : Int) ∧ μ' 21 0 = 1 ∧ μ' 19 0 = (E : Int))) := by
  obtain ⟨M, hM⟩ : ∃ M, M = upm (upm (upm (upm (upm μ 18 0 (μ 17 0)) 17 0 0) 19 0 0) 20 0 0) 21 0 0 := ⟨_, rfl⟩
  obtain ⟨X, hX⟩ : ∃ X, X = upm (upm σ 386 2 0) 386 3 0 := ⟨_, rfl⟩
  have mr : ∀ r, r ≠ 17 → r ≠ 18 → r ≠ 19 → r ≠ 20 → r ≠ 21 → M r = μ r := fun r a b c d e => by subst hM; rw [upm_role e, upm_role d, upm_role c, upm_role a, upm_role b]
  have m17 : M 17 0 = 0 := by subst hM; rw [upm_role (by decide), upm_role (by decide), upm_role (by decide), upm_same]
  have hm : mRd (X 387) ln 0 M (.inl 0) := by
    have x387 : X 387 = σ 387 := by subst hX; rw [upm_role (by decide), upm_role (by decide)]
    rw [x387]
    refine ⟨?_, fun i hi => by rw [mr 8 (by decide) (by decide) (by decide) (by decide) (by decide)]; exact h8 i hi, ?_, ?_, ?_, by omega⟩
    · subst hM; rw [upm_role (by decide), upm_role (by decide), upm_role (by decide), upm_role (by decide), upm_same]; exact h17
    · subst hM; rw [upm_role (by decide), upm_same]; rfl
    · subst hM; rw [upm_same]
    · subst hM; rw [upm_role (by decide), upm_role (by decide), upm_same]; rfl
  have x387 : X 387 = σ 387 := by subst hX; rw [upm_role (by decide), upm_role (by decide)]
  have x1 : X 386 1 = (ln : Int) := by subst hX; rw [upm_cell (by decide), upm_cell (by decide)]; exact h1
  have x2 : X 386 2 = ((0 : Nat) : Int) := by subst hX; rw [upm_cell (by decide), upm_same]; rfl
  have fx : FP σ X := ⟨fun r a b d => by subst hX; rw [upm_role a, upm_role a], fun i a b => by subst hX; rw [upm_cell b, upm_cell a]⟩
  obtain ⟨σ', m', r1, r2, r3, r4⟩ := parse_loop (N := N) hln hN N 0 0 X M (by omega) (by omega) (by omega) x1 x2 (by rw [x387]; exact hs) hm (fun i hi => absurd hi (Nat.not_lt_zero i))
  have fp : FP σ σ' := ⟨fun r a b d => (r2.1 r a b d).trans (fx.1 r a b d), fun i a b => (r2.2 i a b).trans (fx.2 i a b)⟩
  have b00 : bit (ior 0 0) := by decide
  have b01 : bit (ior 0 1) := by decide
  have b10 : bit (ior 1 0) := by decide
  have b11 : bit (ior 1 1) := by decide
  have i00 : ior 0 0 = 0 := rfl
  have i01 : ior 0 1 = 1 := rfl
  have i10 : ior 1 0 = 1 := rfl
  have i11 : ior 1 1 = 1 := rfl
  have e17 : m' 17 0 = 0 := by rw [r3 17 (by decide) (by decide) (by decide) (by decide) (by decide)]; exact m17
  have fr : ∀ v r, r ≠ 9 → r ≠ 10 → r ≠ 17 → r ≠ 18 → r ≠ 19 → r ≠ 20 → r ≠ 21 → upm m' 21 0 v r = μ r := fun v r a b c d e f g => by rw [upm_role g, r3 r a b e f g, mr r c d e f g]
  have pm : f_X13_parse N μ = (if (m' 18 0) ≤ (m' 19 0) then if 0 ≤ (m' 21 0) then if bit (ior (m' 21 0) 0) then bl (upm m' 21 0 (ior (m' 21 0) 0)) fun s21 => some s21 else none else none else if 0 ≤ (m' 21 0) then if bit (ior (m' 21 0) 1) then bl (upm m' 21 0 (ior (m' 21 0) 1)) fun s24 => some s24 else none else none) := by
    unfold f_X13_parse
    simp only [bl_eq] at hM ⊢
    rw [← hM]
    cases hcm : f_X13_command N M with
    | none => rw [hcm] at r1; cases r1
    | some s7 =>
      rw [hcm, Option.bind_some] at r1
      rw [Option.bind_some, r1, Option.bind_some]
  rw [pm]
  have pc : ∀ {v : Int}, f_X9_parse_12 N 386 N X 0 = some (.inl (σ', v)) → f_X9_parse N σ 386 = some (σ', v) := fun {v} h => by
    unfold f_X9_parse
    simp only [bl_eq] at hX ⊢
    rw [← hX, h]; rfl
  rcases r4 with ⟨c', d1, d2, d3, d4, d5⟩ | ⟨E, d1, d2, d3⟩
  · obtain ⟨u1, u2, u3, u4, u5, u6⟩ := d3
    refine ⟨σ', upm m' 21 0 0, ?_, fp, fr 0, by rw [upm_role (by decide)]; exact e17, Or.inl ⟨c', d1, pc d2, upm_same _ _ _ _, d4, by rw [upm_role (by decide)]; exact u3, fun i hi => ?_⟩⟩
    · rw [u1, u5, if_pos (Int.le_refl _), u4, if_pos (show (0 : Int) ≤ 0 by decide), if_pos b00, bl_eq, i00]
    · obtain ⟨kk, z1, z2, z3, z4⟩ := d5 i hi
      exact ⟨kk, z1, z2, by rw [upm_role (by decide)]; exact z3, fun q hq => by rw [upm_role (by decide)]; exact z4 q hq⟩
  · refine ⟨σ', upm m' 21 0 1, ?_, fp, fr 1, by rw [upm_role (by decide)]; exact e17, Or.inr ⟨E, pc d1, d2, upm_same _ _ _ _, ?_⟩⟩
    · rcases d3 with ⟨c', u1, u2, u3, u4, u5, u6⟩ | ⟨c', u0, u1, u2, u3, u4, u5, u6⟩
      · by_cases hq : m' 18 0 ≤ m' 19 0
        · rw [if_pos hq, u4, if_pos (show (0 : Int) ≤ 1 by decide), if_pos b10, bl_eq, i10]
        · rw [if_neg hq, u4, if_pos (show (0 : Int) ≤ 1 by decide), if_pos b11, bl_eq, i11]
      · rw [u1, u5, if_neg (by omega), u4, if_pos (show (0 : Int) ≤ 0 by decide), if_pos b01, bl_eq, i01]
    · rcases d3 with ⟨c', u1, u2, u3, u4, u5, u6⟩ | ⟨c', u0, u1, u2, u3, u4, u5, u6⟩
      · rw [upm_role (by decide)]; exact u5
      · rw [upm_role (by decide)]; exact u5
end PA
