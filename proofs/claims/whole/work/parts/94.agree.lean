/-! agreement of class and model, part 94 -/
/-! renderTicket -/
section RT
variable {σ μ s : Sm} {g : Ga} {K : Int} {N : Nat} {t : List Int}
theorem op_renderTicket (I : INV K σ μ) (hN : 340 < N) (x : Int) : (f_X12_renderTicket N σ x = some ((σ, 4, 0), []) ∧ f_X13_renderTicket N μ x = some (upm μ 11 0 1, 0)) ∨ ∃ t s, f_X12_renderTicket N σ x = some ((σ, 0, (t.length : Int)), t) ∧ f_X13_renderTicket N μ x = some (s, (t.length : Int)) ∧ s 11 0 = 0 ∧ ∀ τ, Bd σ t τ → INV K τ s := by
  unfold f_X12_renderTicket f_X13_renderTicket
  rw [c_known I (by omega), m_ticket I.gi x (by omega), Option.bind_some, Option.bind_some]
  have h16 := I.gi.tk
  have hkb := I.kb
  rcases plt_cases I.gi x with h | ⟨p, h, h3, hid⟩
  · left
    refine ⟨by rw [h]; rfl, ?_⟩
    rw [h, if_pos (by decide), ck0, Option.bind_some]; rfl
  · right
    have T := I.gi.ti p h3
    have hn := I.gi.nx
    have hl := I.gi.ln
    have T0 := T.id
    have T1 := T.ln
    have T2 := T.tr
    have T3 := T.fr
    have T4 := T.to
    have T5 := T.pr
    have sz := (I.gi.li (gt (μ 1) p 1).toNat (by omega)).sz
    have b0 := dg9 (v := gt (μ 1) p 0) (by omega)
    have b1 := dg1 (v := gt (μ 1) p 1) (by omega)
    have b2 := dg2 (v := gt (μ 1) p 2) (by omega)
    have b3 := dg1 (v := gt (μ 1) p 3) (by omega)
    have b4 := dg1 (v := gt (μ 1) p 4) (by omega)
    have b5 := dg2 (v := gt (μ 1) p 5) (by omega)
    have q1' : upm μ 11 0 0 1 = μ 1 := q1 0
    have ti := fun v hv => I.nr.ti p h3 v hv
    have p0 := pr0 (upm μ 11 0 0)
    obtain ⟨s1, w1, p1⟩ := w_one p0 35 (by simp)
    obtain ⟨s2, w2, p2⟩ := w_int p1 hN (v := gt (μ 1) p 0) (by omega) (by simp only [List.length_append, List.length_cons, List.length_nil]; omega)
    obtain ⟨s3, w3, p3⟩ := w_one p2 32 (by simp only [List.length_append, List.length_cons, List.length_nil]; omega)
    obtain ⟨s4, w4, p4⟩ := w_int p3 hN (v := gt (μ 1) p 1) (by omega) (by simp only [List.length_append, List.length_cons, List.length_nil]; omega)
    obtain ⟨s5, w5, p5⟩ := w_one p4 46 (by simp only [List.length_append, List.length_cons, List.length_nil]; omega)
    obtain ⟨s6, w6, p6⟩ := w_int p5 hN (v := gt (μ 1) p 2) (by omega) (by simp only [List.length_append, List.length_cons, List.length_nil]; omega)
    obtain ⟨s7, w7, p7⟩ := w_one p6 32 (by simp only [List.length_append, List.length_cons, List.length_nil]; omega)
    obtain ⟨s8, w8, p8⟩ := w_int p7 hN (v := gt (μ 1) p 3) (by omega) (by simp only [List.length_append, List.length_cons, List.length_nil]; omega)
    obtain ⟨s9, w9, p9⟩ := w_one p8 62 (by simp only [List.length_append, List.length_cons, List.length_nil]; omega)
    obtain ⟨sA, wA, pA⟩ := w_int p9 hN (v := gt (μ 1) p 4) (by omega) (by simp only [List.length_append, List.length_cons, List.length_nil]; omega)
    obtain ⟨sB, wB, pB⟩ := w_one pA 61 (by simp only [List.length_append, List.length_cons, List.length_nil]; omega)
    obtain ⟨sC, wC, pC⟩ := w_int pB hN (v := gt (μ 1) p 5) (by omega) (by simp only [List.length_append, List.length_cons, List.length_nil]; omega)
    have ss : ∀ {s : Sm} {t : List Int}, PR (upm μ 11 0 0) s t → s 1 = μ 1 := fun h => by rw [h.2 1 (by decide) (by decide), q1']
    have tt : ∀ {s : Sm} {t : List Int} (v : Nat), v < 8 → PR (upm μ 11 0 0) s t → f_X13_t s (p : Int) (v : Int) = some (gt (μ 1) p v) := fun v hv h => by rw [m_t (by omega) hv, ss h]
    have hT : txT (gt (μ 1) p 0) (gt (μ 1) p 1) (gt (μ 1) p 2) (gt (μ 1) p 3) (gt (μ 1) p 4) (gt (μ 1) p 5) = [] ++ [35] ++ dg (gt (μ 1) p 0).toNat ++ [32] ++ dg (gt (μ 1) p 1).toNat ++ [46] ++ dg (gt (μ 1) p 2).toNat ++ [32] ++ dg (gt (μ 1) p 3).toNat ++ [62] ++ dg (gt (μ 1) p 4).toNat ++ [61] ++ dg (gt (μ 1) p 5).toNat := rfl
    rw [← hT] at pC
    have hlen : (txT (gt (μ 1) p 0) (gt (μ 1) p 1) (gt (μ 1) p 2) (gt (μ 1) p 3) (gt (μ 1) p 4) (gt (μ 1) p 5)).length ≤ 80 := by
      rw [hT]; simp only [List.length_append, List.length_cons, List.length_nil]; omega
    refine ⟨_, sC, ?_, ?_, ?_, fun τ hB => out_ok I hlen hB pC⟩
    · rw [h, if_neg (show ¬ (p : Int) = -1 by omega)]
      have e0 : σ (σ 7 (p : Int).toNat).toNat 0 = gt (μ 1) p 0 := ti 0 (by decide)
      have e1 : σ (σ 7 (p : Int).toNat).toNat 1 = gt (μ 1) p 1 := ti 1 (by decide)
      have e2 : σ (σ 7 (p : Int).toNat).toNat 2 = gt (μ 1) p 2 := ti 2 (by decide)
      have e3 : σ (σ 7 (p : Int).toNat).toNat 3 = gt (μ 1) p 3 := ti 3 (by decide)
      have e4 : σ (σ 7 (p : Int).toNat).toNat 4 = gt (μ 1) p 4 := ti 4 (by decide)
      have e5 : σ (σ 7 (p : Int).toNat).toNat 5 = gt (μ 1) p 5 := ti 5 (by decide)
      simp only [e0, e1, e2, e3, e4, e5]
      rw [if_pos trivial, if_pos (by omega), if_pos (by omega)]
    · rw [h, if_neg (show ¬ (p : Int) < 0 by omega), ck1, Option.bind_some]
      dsimp only
      rw [if_pos (by decide), m_ticket (by rw [q1']; exact I.gi) x (by omega), q1', Option.bind_some, bl_eq, h, w1, Option.bind_some, ← hid, w2, Option.bind_some, w3, Option.bind_some, show f_X13_t s3 (p : Int) 1 = _ from tt 1 (by decide) p3, Option.bind_some, w4, Option.bind_some, w5, Option.bind_some, show f_X13_t s5 (p : Int) 2 = _ from tt 2 (by decide) p5, Option.bind_some, w6, Option.bind_some, w7, Option.bind_some, show f_X13_t s7 (p : Int) 3 = _ from tt 3 (by decide) p7, Option.bind_some, w8, Option.bind_some, w9, Option.bind_some, show f_X13_t s9 (p : Int) 4 = _ from tt 4 (by decide) p9, Option.bind_some, wA, Option.bind_some, wB, Option.bind_some, show f_X13_t sB (p : Int) 5 = _ from tt 5 (by decide) pB, Option.bind_some, wC, Option.bind_some, pC.1.1]
    · rw [pC.2 11 (by decide) (by decide), upm_same]
end RT
