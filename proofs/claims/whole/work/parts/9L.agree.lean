/-! agreement of class and model, part 9L -/
/-! the check of both ways -/
def FC (σ s : Sm) : Prop := ∀ r, r < 366 ∨ 386 ≤ r → s r = σ r
section IC
variable {σ s μ : Sm} {g : Ga} {K : Int} {N : Nat}
theorem FC.nr (h : FC σ s) (n : NR 1 σ g) (G : GI K g) (R : RW 1 σ) : NR 1 s g := n.same R G.tk.2 G.ln.2 (fun r h1 h2 => h r (by omega))
theorem FC.rw (h : FC σ s) (R : RW 1 σ) : RW 1 s := R.same (h 7 (by omega))
theorem c_journeysAgree (n : NR 1 σ g) (G : GI K g) (R : RW 1 σ) (hK : K ≤ 80000) (hN : 200 < N) : ∃ s, f_X12_journeysAgree N σ = some (s, 1) ∧ FC σ s := by
  have hs := G.st
  have mi := G.mi
  unfold f_X12_journeysAgree
  rw [n.st]
  by_cases e : g 0 = 0
  · rw [if_pos e]; exact ⟨σ, rfl, fun _ _ => rfl⟩
  · rw [if_neg e]
    have hf : ((0 : Nat) : Int) < g 0 := by omega
    obtain ⟨s1, a1, a2, a3, a4⟩ := c_searchEarliest (N := N) n G R (a := 366) (by decide) (by omega) (m0 := g 5) (by omega) hf
    have n1 := a2.nr (by decide) n G R
    have R1 : RW 1 s1 := R.same (a2 7 (by decide))
    obtain ⟨s2, b1, b2, b3, b4⟩ := c_searchRounds (N := N) n1 G R1 (a := 371) (by decide) (by omega) (m0 := g 5) (by omega) hf a3 a4
    have n2 := b2.nr (by decide) n1 G R1
    have R2 : RW 1 s2 := R1.same (b2 7 (by decide))
    obtain ⟨s3, c1, c2, c3, c4⟩ := c_leastB (N := N) n2 G R2 hN hf
    have n3 := c2.nr n2 G R2
    have R3 := c2.rw R2
    obtain ⟨s4, d1, d2, d3⟩ := c_fillTable (N := N) n3 G R3 (by omega)
    have n4 := d2.nr n3 G R3
    have fc : FC σ s4 := fun r hr => (d2 r (by omega)).trans ((c2 r (by omega)).trans ((b2 r (by omega)).trans (a2 r (by omega))))
    refine ⟨s4, ?_, fc⟩
    rw [n.mi, show f_X1_searchEarliest N σ 366 1 0 (g 5) = some s1 from a1, Option.bind_some, n1.mi, show f_X1_searchRounds N s1 371 1 0 (g 5) = some s2 from b1, Option.bind_some, show f_X2_searchRounds N s2 376 1 0 = some s3 from c1, Option.bind_some, d1, Option.bind_some]
    have e367 : s4 367 = s1 (366 + 1) := by rw [d2 _ (by decide), c2 _ (by decide), b2 _ (by decide)]
    have e372 : s4 372 = s2 (371 + 1) := by rw [d2 _ (by decide), c2 _ (by decide)]
    have e377 : s4 377 = s3 377 := d2 _ (by decide)
    obtain ⟨z, hz⟩ := Int.eq_ofNat_of_zero_le hs.1
    have key : ∀ n' k : Nat, k ≤ z → z - k < n' → f_X12_journeysAgree_75 s4 n' k = some (.inr ()) := by
      intro n'
      induction n' with
      | zero => intro k _ h; omega
      | succ n' ih =>
        intro k hk hn
        rw [f_X12_journeysAgree_75, n4.st]
        by_cases e2 : g 0 ≤ (k : Int)
        · rw [if_pos e2]
        · have u := (d3 0 hf).uniq c3 (i := k) (by omega)
          rw [if_neg e2, if_pos (by omega), Int.toNat_natCast, e367, e372, if_pos (b4 k (by omega)).1.symm, show f_X2_tableEntry s4 376 0 k = some (tb s4 0 k) from c_tE s4 (i := 0) (by omega) (by omega), Option.bind_some, e377, if_pos u.symm]
          exact ih (k + 1) (by omega) (by omega)
    rw [show f_X12_journeysAgree_75 s4 N 1 = _ from key N 1 (by omega) (by omega)]; rfl
theorem c_flowsAgree (n : NR 1 σ g) (G : GI K g) (R : RW 1 σ) (hN : 2000 < N) : ∃ s, f_X12_flowsAgree N σ = some (s, 1) ∧ FC σ s := by
  have hs := G.st
  have key : ∀ (n' k : Nat) (s : Sm), 1 ≤ k → k ≤ 11 → 11 - k < n' → FC σ s → ∃ s', f_X12_flowsAgree_2 N n' s k = some (.inr s') ∧ FC σ s' := by
    intro n'
    induction n' with
    | zero => intro k s _ _ h; omega
    | succ n' ih =>
      intro k s hk1 hk hn fc
      have nn := fc.nr n G R
      rw [f_X12_flowsAgree_2, nn.st]
      by_cases e2 : g 0 ≤ (k : Int)
      · rw [if_pos e2]; exact ⟨s, rfl, fc⟩
      · obtain ⟨s1, a1, a2⟩ := c_greatest (N := N) nn G (fc.rw R) hN (f := 0) (t := k) (by omega) (by omega) (by omega)
        have n1 := a2.nr nn G (fc.rw R)
        obtain ⟨s2, b1, b2⟩ := c_leastCut (N := N) n1 G (a2.rw (fc.rw R)) hN (f := 0) (t := k) (by omega) (by omega)
        rw [if_neg e2, show f_X5_greatest N s 379 1 0 k = _ from a1, Option.bind_some]
        dsimp only
        rw [show f_X5_leastCut N s1 379 1 0 k = _ from b1, Option.bind_some, if_pos rfl]
        exact ih (k + 1) s2 (by omega) (by omega) (by omega) (fun r hr => (b2 r (by omega)).trans ((a2 r (by omega)).trans (fc r hr)))
  obtain ⟨s', h1, h2⟩ := key N 1 σ (by omega) (by omega) (by omega) (fun _ _ => rfl)
  refine ⟨s', ?_, h2⟩
  unfold f_X12_flowsAgree
  rw [show f_X12_flowsAgree_2 N N σ 1 = _ from h1]; rfl
theorem c_seatsAgree (n : NR 1 σ g) (G : GI K g) (R : RW 1 σ) (hN : 200 < N) : f_X12_seatsAgree N σ = some 1 := by
  have ht := G.tk
  have hl := G.ln
  obtain ⟨z, hz⟩ := Int.eq_ofNat_of_zero_le ht.1
  have key : ∀ n' k : Nat, k ≤ z → z - k < n' → f_X12_seatsAgree_2 N σ n' k = some (.inr ()) := by
    intro n'
    induction n' with
    | zero => intro k _ h; omega
    | succ n' ih =>
      intro k hk hn
      have e6 : σ 6 1 = g 3 := n.tk
      rw [f_X12_seatsAgree_2, e6]
      by_cases e2 : g 3 ≤ (k : Int)
      · rw [if_pos e2]
      · have hk3 : (k : Int) < g 3 := by omega
        have T := G.ti k hk3
        have tl := T.ln
        obtain ⟨c, hc⟩ := Int.eq_ofNat_of_zero_le tl.1
        have hc5 : c < 5 := by omega
        have sz := (G.li c hc5).sz
        have tf := T.fr
        have tt := T.to
        rw [hc, Int.toNat_natCast] at tt
        have ev : ∀ v, v < 6 → σ (σ 7 k).toNat v = gt g k v := fun v hv => n.ti k hk3 v hv
        rw [if_neg e2, if_pos (by omega), Int.toNat_natCast, ev 1 (by decide), ev 2 (by decide), ev 3 (by decide), ev 4 (by decide), hc, c_seatsLeft n G (by omega) _ _ _ (by omega) (by omega), Option.bind_some, c_seatsLeftSwept n G (by omega) _ _ _ (by omega) (by omega), Option.bind_some, if_pos rfl, if_pos (fre_rng G hc5 _ _ _).1]
        exact ih (k + 1) (by omega) (by omega)
  unfold f_X12_seatsAgree
  rw [show f_X12_seatsAgree_2 N σ N 0 = _ from key N 0 (by omega) (by omega)]; rfl
theorem op_isConsistent (I : INV K σ μ) (hN : 2000 < N) : ∃ σ' μ', f_X12_isConsistent N σ = some (σ', 1) ∧ f_X13_isConsistent μ = some (μ', 1) ∧ INV K σ' μ' := by
  have R := I.rw 1 (Or.inl rfl)
  obtain ⟨s1, a1, a2⟩ := c_journeysAgree (N := N) I.nr I.gi R I.kb.2 (by omega)
  have n1 := a2.nr I.nr I.gi R
  obtain ⟨s2, b1, b2⟩ := c_flowsAgree (N := N) n1 I.gi (a2.rw R) hN
  have n2 := b2.nr n1 I.gi (a2.rw R)
  have c := c_seatsAgree (N := N) n2 I.gi (b2.rw (a2.rw R)) (by omega)
  refine ⟨s2, upm μ 11 0 0, ?_, rfl, ask_ok I (fun r _ _ h => upm_role h) (fun r hr => (b2 r hr).trans (a2 r hr))⟩
  unfold f_X12_isConsistent
  rw [a1, Option.bind_some]
  dsimp only
  rw [if_neg (by decide), b1, Option.bind_some]
  dsimp only
  rw [if_neg (by decide), c, Option.bind_some, if_neg (by decide)]
end IC
