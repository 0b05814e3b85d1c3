/-! agreement of class and model, part 9T -/
/-! a step of the law: the same answer, and both stay alike -/
section LW
variable {K K' : Int} {σ μ : Sm}
theorem INV.mono (I : INV K σ μ) (h : K ≤ K') (h2 : K' ≤ 80000) : INV K' σ μ :=
  INV.mk I.nr (I.gi.mono h) ⟨by have := I.kb; omega, h2⟩ I.rw I.hn I.hc (fun d hd => ⟨(I.hi d hd).1, (I.hi d hd).2.mono h⟩) I.sv (fun e => ⟨(I.sn e).1, (I.sn e).2.mono h⟩) I.sl I.sg I.er I.fl I.ot
def LR (K : Int) (rec : SL → Int → Option Unit) (i : Int) : Prop := ∀ τ : SL, INV K τ.1 τ.2.1 → rec τ (i + 5) = some ()
theorem thr (μ : Sm) : f_X13_thrown μ = some (μ 11 0) := rfl
variable {fc : Option (So Sm)} {fm : Sm → Option (Sm × Int)} {xs : List (Nat × Int)} {τ : SL} {fL : Option (SL × Int)} {rec : SL → Int → Option Unit} {i : Int}
theorem lw_ok (cd : So Sm → Option (SL × Int)) (h : OK2 fc (fm τ.2.1) K xs) (hL : fL = fc.bind cd) (h0 : ∀ s r, cd (s, 0, r) = some ((s, τ.2.1, r, τ.2.2.2), 0)) (hx : ∀ s r z c, (z, c) ∈ xs → z ≠ 0 → c ≠ 0 ∧ cd (s, z, r) = some ((s, τ.2), c)) (hk : K ≤ K') (h2 : K' ≤ 80000) (hr : LR K' rec i) : (fL.bind fun v2 => (fm v2.1.2.1).bind fun v3 => (f_X13_thrown (v2.1.1, v3.1, v2.1.2.2).2.1).bind fun v4 => (if v4 = v2.2 then (if v2.2 = 0 then (if (lcm ((v2.1.1, v3.1, v2.1.2.2).2.2.1) v3.2) = 0 then rec (v2.1.1, v3.1, v2.1.2.2) (i + 5) else none) else rec (v2.1.1, v3.1, v2.1.2.2) (i + 5)) else none)) = some () := by
  obtain ⟨σ', z, r, μ', w, e1, e2, e3, J⟩ := h
  rw [hL, e1, Option.bind_some]
  rcases e3 with ⟨rfl, h3, rfl⟩ | ⟨hz, hm⟩
  · rw [h0, Option.bind_some]
    dsimp only
    rw [e2, Option.bind_some]
    dsimp only
    rw [thr, Option.bind_some, if_pos h3, if_pos rfl, if_pos (lcm_eq.mpr rfl)]
    exact hr _ (J.mono hk h2)
  · obtain ⟨c1, c2⟩ := hx σ' r z _ hm hz
    rw [c2, Option.bind_some]
    dsimp only
    rw [e2, Option.bind_some]
    dsimp only
    rw [thr, Option.bind_some, if_pos rfl, if_neg c1]
    exact hr _ (J.mono hk h2)
theorem lw_bit (cd : So Sm → Option (SL × Int)) (h : OK2 fc (fm τ.2.1) K xs) (hL : fL = fc.bind cd) (h0 : ∀ s r, cd (s, 0, r) = if r = 0 then some ((s, τ.2.1, 0, τ.2.2.2), 0) else some ((s, τ.2.1, 1, τ.2.2.2), 0)) (hx : ∀ s r z c, (z, c) ∈ xs → z ≠ 0 → c ≠ 0 ∧ cd (s, z, r) = some ((s, τ.2), c)) (hk : K ≤ K') (h2 : K' ≤ 80000) (hr : LR K' rec i) : (fL.bind fun v2 => (fm v2.1.2.1).bind fun v3 => (f_X13_thrown (v2.1.1, v3.1, v2.1.2.2).2.1).bind fun v4 => (if v4 = v2.2 then (if v2.2 = 0 then (if v3.2 = 0 then (if (lcm ((v2.1.1, v3.1, v2.1.2.2).2.2.1) 0) = 0 then rec (v2.1.1, v3.1, v2.1.2.2) (i + 5) else none) else (if (lcm ((v2.1.1, v3.1, v2.1.2.2).2.2.1) 1) = 0 then rec (v2.1.1, v3.1, v2.1.2.2) (i + 5) else none)) else rec (v2.1.1, v3.1, v2.1.2.2) (i + 5)) else none)) = some () := by
  obtain ⟨σ', z, r, μ', w, e1, e2, e3, J⟩ := h
  rw [hL, e1, Option.bind_some]
  rcases e3 with ⟨rfl, h3, rfl⟩ | ⟨hz, hm⟩
  · rw [h0]
    by_cases e : r = 0
    · rw [if_pos e, Option.bind_some]
      dsimp only
      rw [e2, Option.bind_some]
      dsimp only
      rw [thr, Option.bind_some, if_pos h3, if_pos rfl, if_pos e, if_pos (lcm_eq.mpr rfl)]
      exact hr _ (J.mono hk h2)
    · rw [if_neg e, Option.bind_some]
      dsimp only
      rw [e2, Option.bind_some]
      dsimp only
      rw [thr, Option.bind_some, if_pos h3, if_pos rfl, if_neg e, if_pos (lcm_eq.mpr rfl)]
      exact hr _ (J.mono hk h2)
  · obtain ⟨c1, c2⟩ := hx σ' r z _ hm hz
    rw [c2, Option.bind_some]
    dsimp only
    rw [e2, Option.bind_some]
    dsimp only
    rw [thr, Option.bind_some, if_pos rfl, if_neg c1]
    exact hr _ (J.mono hk h2)
theorem lw_plain {f1 : Option Int} {f2 : Option (Sm × Int)} {μ' : Sm} {v : Int} (h1 : f1 = some v) (h2 : f2 = some (μ', v)) (J : INV K τ.1 μ') (hk : K ≤ K') (hb : K' ≤ 80000) (hr : LR K' rec i) : (f1.bind fun v1 => f2.bind fun v2 => (if v1 = v2.2 then rec (τ.1, v2.1, τ.2.2) (i + 5) else none)) = some () := by
  rw [h1, Option.bind_some, h2, Option.bind_some]
  dsimp only
  rw [if_pos rfl]
  exact hr _ (J.mono hk hb)
theorem lw_chg {f1 : Option (Sm × Int)} {f2 : Sm → Option (Sm × Int)} (h : ∃ σ' μ' w, f1 = some (σ', w) ∧ f2 τ.2.1 = some (μ', w) ∧ INV K σ' μ') (hk : K ≤ K') (hb : K' ≤ 80000) (hr : LR K' rec i) : (f1.bind fun v1 => (f2 (v1.1, τ.2).2.1).bind fun v2 => (if v1.2 = v2.2 then rec ((v1.1, τ.2).1, v2.1, (v1.1, τ.2).2.2) (i + 5) else none)) = some () := by
  obtain ⟨σ', μ', w, e1, e2, J⟩ := h
  rw [e1, Option.bind_some]
  dsimp only
  rw [e2, Option.bind_some]
  dsimp only
  rw [if_pos rfl]
  exact hr _ (J.mono hk hb)
theorem share_ok : ∀ s : Nat, s < 11 → ∀ c : Nat, c < 11 → 0 < c → (FP.f2d (fqv s c) &&& 0x7fffffffffffffff ≤ 0x7ff0000000000000 ∧ dcm (FP.f2d (fqv s c)) (FP.f2d (fqv s c)) .l = 0) := by
  decide +kernel
theorem lw_mean {N : Nat} (I : INV K τ.1 τ.2.1) (hN : 16 < N) (hk : K ≤ K') (hb : K' ≤ 80000) (hr : LR K' rec i) : ((f_L_meanPrice N τ ).bind fun v1 => (f_X13_meanPrice N v1.1.2.1).bind fun v2 => (f_X13_thrown (v1.1.1, v2.1, v1.1.2.2).2.1).bind fun v3 => (if v3 = v1.2 then (if v1.2 = 0 then (if (dcm ((v1.1.1, v2.1, v1.1.2.2).2.2.2) v2.2 .l) = 0 then rec (v1.1.1, v2.1, v1.1.2.2) (i + 5) else (if (dcm ((v1.1.1, v2.1, v1.1.2.2).2.2.2) ((v1.1.1, v2.1, v1.1.2.2).2.2.2) .l) = 0 then none else (if (dcm v2.2 v2.2 .l) = 0 then none else rec (v1.1.1, v2.1, v1.1.2.2) (i + 5)))) else rec (v1.1.1, v2.1, v1.1.2.2) (i + 5)) else none)) = some () := by
  unfold f_L_meanPrice
  rcases op_meanPrice I hN with ⟨e1, v, e2⟩ | ⟨v, e1, e2⟩
  · rw [e1, Option.bind_some, if_neg (show ¬ (6 : Nat) = 0 by decide), if_pos rfl, Option.bind_some]
    dsimp only
    rw [e2, Option.bind_some]
    dsimp only
    rw [thr, Option.bind_some, if_pos (show upm τ.2.1 11 0 1 11 0 = 1 from rfl), if_neg (show ¬ (1 : Int) = 0 by decide)]
    exact hr _ ((qI I 1).mono hk hb)
  · rw [e1, Option.bind_some, if_pos rfl, Option.bind_some]
    dsimp only
    rw [e2, Option.bind_some]
    dsimp only
    rw [thr, Option.bind_some, if_pos (show upm τ.2.1 11 0 0 11 0 = 0 from rfl), if_pos rfl]
    have h9 := hr (τ.1, upm τ.2.1 11 0 0, τ.2.2.1, v) ((qI I 0).mono hk hb)
    by_cases e : dcm v v .l = 0
    · rw [if_pos e]; exact h9
    · rw [if_neg e, if_neg e, if_neg e]; exact h9
theorem lw_share {N : Nat} (I : INV K τ.1 τ.2.1) (hN : 16 < N) (hk : K ≤ K') (hb : K' ≤ 80000) (hr : LR K' rec i) : ((f_L_closedShare N τ ).bind fun v1 => (f_X13_closedShare N v1.1.2.1).bind fun v2 => (f_X13_thrown (v1.1.1, v2.1, v1.1.2.2).2.1).bind fun v3 => (if v3 = v1.2 then (if v1.2 = 0 then if FP.f2d v2.2 &&& 0x7fffffffffffffff ≤ 0x7ff0000000000000 then (if (dcm ((v1.1.1, v2.1, v1.1.2.2).2.2.2) (FP.f2d v2.2) .l) = 0 then rec (v1.1.1, v2.1, v1.1.2.2) (i + 5) else (if (dcm ((v1.1.1, v2.1, v1.1.2.2).2.2.2) ((v1.1.1, v2.1, v1.1.2.2).2.2.2) .l) = 0 then none else (if (fcm v2.2 v2.2 .l) = 0 then none else rec (v1.1.1, v2.1, v1.1.2.2) (i + 5)))) else none else rec (v1.1.1, v2.1, v1.1.2.2) (i + 5)) else none)) = some () := by
  unfold f_L_closedShare
  rcases op_closedShare I hN with ⟨e1, v, e2⟩ | ⟨s, c, hs, hc0, hc, e1, e2⟩
  · rw [e1, Option.bind_some, if_neg (show ¬ (6 : Nat) = 0 by decide), if_pos rfl, Option.bind_some]
    dsimp only
    rw [e2, Option.bind_some]
    dsimp only
    rw [thr, Option.bind_some, if_pos (show upm τ.2.1 11 0 1 11 0 = 1 from rfl), if_neg (show ¬ (1 : Int) = 0 by decide)]
    exact hr _ ((qI I 1).mono hk hb)
  · obtain ⟨q1, q2⟩ := share_ok s hs c hc hc0
    rw [e1, Option.bind_some, if_pos rfl]
    dsimp only
    rw [if_pos q1, Option.bind_some]
    dsimp only
    rw [e2, Option.bind_some]
    dsimp only
    rw [thr, Option.bind_some, if_pos (show upm τ.2.1 11 0 0 11 0 = 0 from rfl), if_pos rfl, if_pos q1, if_pos q2]
    exact hr (τ.1, upm τ.2.1 11 0 0, τ.2.2.1, FP.f2d (fqv s c)) ((qI I 0).mono hk hb)
theorem lw_ren {fr : Option (So Sm × List Int)} {fR : Option SR} {z : Nat} (hz : z ≠ 0) (cd : So Sm × List Int → Option SR) (I : INV K τ.1 τ.2.1) (h : (fr = some ((τ.1, z, 0), []) ∧ fm τ.2.1 = some (upm τ.2.1 11 0 1, 0)) ∨ ∃ t s, fr = some ((τ.1, 0, (t.length : Int)), t) ∧ fm τ.2.1 = some (s, (t.length : Int)) ∧ s 11 0 = 0 ∧ ∀ τ', Bd τ.1 t τ' → INV K τ' s) (hL : fR = fr.bind cd) (h0 : ∀ s r t, cd ((s, 0, r), t) = some (((s, τ.2.1, r, τ.2.2.2), 0), t)) (hx : cd ((τ.1, z, 0), []) = some (((τ.1, τ.2), 1), [])) (hk : K ≤ K') (hb : K' ≤ 80000) (hr : LR K' rec i) : oB (∃ t, BI τ.1 t) (fR.bind fun v2 => dall (RR v2) fun τv2 => (fm τv2.2.1).bind fun v3 => (f_X13_thrown (τv2.1, v3.1, τv2.2.2).2.1).bind fun v4 => (if v4 = v2.1.2 then (if v2.1.2 = 0 then (if (lcm ((τv2.1, v3.1, τv2.2.2).2.2.1) v3.2) = 0 then rec (τv2.1, v3.1, τv2.2.2) (i + 5) else none) else rec (τv2.1, v3.1, τv2.2.2) (i + 5)) else none)) = some () := by
  obtain ⟨t0, ht0, -⟩ := I.ot
  have hB : ∃ t, BI τ.1 t := ⟨t0, ht0⟩
  unfold oB
  rw [if_pos hB, hL]
  rcases h with ⟨e1, e2⟩ | ⟨t, s, e1, e2, e3, e4⟩
  · rw [e1, Option.bind_some, hx, Option.bind_some]
    unfold dall
    rw [if_pos]
    intro τ' hτ
    obtain ⟨p1, -, p3⟩ := hτ
    have p3 := p3 (by show (1 : Int) ≠ 0; decide)
    have hτ' : τ' = τ := Prod.ext p3 p1
    subst hτ'
    dsimp only
    rw [e2, Option.bind_some]
    dsimp only
    rw [thr, Option.bind_some, if_pos (show upm τ'.2.1 11 0 1 11 0 = 1 from rfl), if_neg (show ¬ (1 : Int) = 0 by decide)]
    exact hr _ ((qI I 1).mono hk hb)
  · rw [e1, Option.bind_some, h0, Option.bind_some]
    unfold dall
    rw [if_pos]
    intro τ' hτ
    obtain ⟨p1, p2, -⟩ := hτ
    have p5 := e4 _ (p2 rfl)
    obtain ⟨a, b⟩ := τ'
    dsimp only at p1 p5 ⊢
    subst p1
    dsimp only
    rw [e2, Option.bind_some]
    dsimp only
    rw [thr, Option.bind_some, if_pos e3, if_pos rfl, if_pos (lcm_eq.mpr rfl)]
    exact hr _ (p5.mono hk hb)
end LW
