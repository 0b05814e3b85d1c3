/-! agreement of class and model, part 9E -/
/-! the class's rounds of rides -/
section BE
variable {σ s : Sm} {g L L' : Ga} {K : Int} {N f r : Nat}
theorem c_r3 (n : NR 1 σ g) (G : GI K g) (R : RW 1 σ) (hN : 16 < N) {x3 : Int} (hr : 0 ≤ x3 ∧ x3 ≤ 20) {i : Nat} (hi : (i : Int) < g 0) (hL : σ 377 i + 1 = x3) : ∃ s, f_X2_rideAll N σ 376 1 i x3 = some s ∧ FB σ s ∧ WS g (σ 377 i) x3 f (σ 377) (s 377) ∧ ∀ j, rX g i j → s 377 j ≤ x3 := by
  have h0 := G.st
  obtain ⟨z, hz⟩ := Int.eq_ofNat_of_zero_le h0.1
  obtain ⟨v, ⟨p1, p2, p3, p4⟩, e⟩ := lp_inv (fun n (v : Sm) k => f_X2_rideAll_3 N 376 1 i x3 n v k) id (fun k v => FB σ v ∧ WS g (σ 377 i) x3 f (σ 377) (v 377) ∧ (∀ j, j < k → rX g i j → v 377 j ≤ x3) ∧ v 377 i = σ 377 i) z (fun n' v hP => by
      have nn := hP.1.nr n G R
      show f_X2_rideAll_3 N 376 1 i x3 _ v (z : Int) = _
      rw [f_X2_rideAll_3, nn.st, if_pos (by omega)]; rfl) (fun n' k v hk hP => by
      obtain ⟨p1, p2, p3, p4⟩ := hP
      have nn := p1.nr n G R
      have hks : (k : Int) < g 0 := by omega
      by_cases e : v 377 k ≤ x3
      · refine ⟨v, ⟨p1, p2, fun j hj hw => ?_, p4⟩, ?_⟩
        · by_cases e2 : j = k
          · subst e2; exact e
          · exact p3 j (by omega) hw
        · show f_X2_rideAll_3 N 376 1 i x3 (n' + 1) v (k : Int) = f_X2_rideAll_3 N 376 1 i x3 n' v ((k + 1 : Nat) : Int)
          rw [f_X2_rideAll_3, nn.st, if_neg (by omega), if_pos (by omega), Int.toNat_natCast, if_pos (show v (376 + 1) k ≤ x3 from e)]; rfl
      · obtain ⟨w, w1, w2⟩ := c_canRide (N := N) nn G hN hi hks
        rcases w2 with ⟨rfl, w2⟩ | ⟨rfl, w2⟩
        · have hne : i ≠ k := fun e2 => by subst e2; omega
          have e377 : upm v 377 k x3 377 = upf (v 377) k (v 377 i + 1) := by rw [upm_upf, p4, hL]
          have ws : WS g (σ 377 i) x3 f (v 377) (upm v 377 k x3 377) := WS.mk (fun j hj => by
            by_cases e2 : j = k
            · subst e2; right; rw [upm_same]; omega
            · left; rw [upm_cell e2]) (fun d => by rw [e377]; exact dmn_r d w2 (by omega)) (fun h => by
              have := ctk_one (p := fun j => decide (v 377 j = σ 377 i)) (k := i) (g 0).toNat (by omega) (by simp [p4])
              unfold lvl at h
              omega)
          refine ⟨upm v 377 k x3, ⟨p1.trans (fun r h => upm_role h), p2.trans ws, fun j hj hw => ?_, ?_⟩, ?_⟩
          · by_cases e2 : j = k
            · subst e2; rw [upm_same]; omega
            · rw [upm_cell e2]; exact p3 j (by omega) hw
          · rw [upm_cell hne]; exact p4
          · show f_X2_rideAll_3 N 376 1 i x3 (n' + 1) v (k : Int) = f_X2_rideAll_3 N 376 1 i x3 n' (upm v 377 k x3) ((k + 1 : Nat) : Int)
            rw [f_X2_rideAll_3, nn.st, if_neg (by omega), if_pos (by omega), Int.toNat_natCast, if_neg (show ¬ v (376 + 1) k ≤ x3 from e), w1, Option.bind_some, if_neg (by decide), bl_eq]; rfl
        · refine ⟨v, ⟨p1, p2, fun j hj hw => ?_, p4⟩, ?_⟩
          · by_cases e2 : j = k
            · subst e2; exact absurd hw w2
            · exact p3 j (by omega) hw
          · show f_X2_rideAll_3 N 376 1 i x3 (n' + 1) v (k : Int) = f_X2_rideAll_3 N 376 1 i x3 n' v ((k + 1 : Nat) : Int)
            rw [f_X2_rideAll_3, nn.st, if_neg (by omega), if_pos (by omega), Int.toNat_natCast, if_neg (show ¬ v (376 + 1) k ≤ x3 from e), w1, Option.bind_some, if_pos rfl]; rfl) N 0 σ (by omega) (by omega) ⟨FB.refl _, WS.refl _ _ _ _ _, fun j hj => by omega, rfl⟩
  refine ⟨v, ?_, p1, p2, fun j hw => p3 j (by have := hw.2.1; omega) hw⟩
  unfold f_X2_rideAll
  rw [show f_X2_rideAll_3 N 376 1 i x3 N σ 0 = some v from e]; rfl
theorem c_s33 (n : NR 1 σ g) (G : GI K g) (R : RW 1 σ) (hN : 16 < N) {x3 : Int} (hr : 0 ≤ x3 ∧ x3 ≤ 19) : ∃ s, f_X2_searchRounds_33 N 376 1 x3 N σ 0 = some s ∧ FB σ s ∧ WS g x3 (x3 + 1) f (σ 377) (s 377) ∧ ∀ i j, rX g i j → s 377 i = x3 → s 377 j ≤ x3 + 1 := by
  have h0 := G.st
  obtain ⟨z, hz⟩ := Int.eq_ofNat_of_zero_le h0.1
  obtain ⟨v, ⟨p1, p2, p3⟩, e⟩ := lp_inv (fun n (v : Sm) k => f_X2_searchRounds_33 N 376 1 x3 n v k) id (fun k v => FB σ v ∧ WS g x3 (x3 + 1) f (σ 377) (v 377) ∧ (∀ i j, i < k → rX g i j → v 377 i = x3 → v 377 j ≤ x3 + 1)) z (fun n' v hP => by
      have nn := hP.1.nr n G R
      show f_X2_searchRounds_33 N 376 1 x3 _ v (z : Int) = _
      rw [f_X2_searchRounds_33, nn.st, if_pos (by omega)]; rfl) (fun n' k v hk hP => by
      obtain ⟨p1, p2, p3⟩ := hP
      have nn := p1.nr n G R
      have hks : (k : Int) < g 0 := by omega
      by_cases e : v 377 k = x3
      · obtain ⟨s2, q1, q2, q3, q4⟩ := c_r3 (N := N) (f := f) nn G (p1.rw R) hN (x3 := x3 + 1) (by omega) hks (by omega)
        rw [e] at q3
        refine ⟨s2, ⟨p1.trans q2, p2.trans q3, fun i j hi hw hL => ?_⟩, ?_⟩
        · by_cases e2 : i = k
          · subst e2; exact q4 j hw
          · have h1 := q3.ch i hw.1
            have h2 := q3.ch j hw.2.1
            have h3 := p3 i j (by omega) hw (by omega)
            omega
        · show f_X2_searchRounds_33 N 376 1 x3 (n' + 1) v (k : Int) = f_X2_searchRounds_33 N 376 1 x3 n' s2 ((k + 1 : Nat) : Int)
          rw [f_X2_searchRounds_33, nn.st, if_neg (by omega), if_pos (by omega), Int.toNat_natCast, if_pos (show v (376 + 1) k = x3 from e), if_pos (by unfold rng; omega), q1, Option.bind_some]; rfl
      · refine ⟨v, ⟨p1, p2, fun i j hi hw hL => ?_⟩, ?_⟩
        · by_cases e2 : i = k
          · subst e2; exact absurd hL e
          · exact p3 i j (by omega) hw hL
        · show f_X2_searchRounds_33 N 376 1 x3 (n' + 1) v (k : Int) = f_X2_searchRounds_33 N 376 1 x3 n' v ((k + 1 : Nat) : Int)
          rw [f_X2_searchRounds_33, nn.st, if_neg (by omega), if_pos (by omega), Int.toNat_natCast, if_neg (show ¬ v (376 + 1) k = x3 from e)]; rfl) N 0 σ (by omega) (by omega) ⟨FB.refl _, WS.refl _ _ _ _ _, fun i j hi => by omega⟩
  exact ⟨v, e, p1, p2, fun i j hw => p3 i j (by have := hw.1; omega) hw⟩
theorem BR.step {L1 L2 : Ga} (hf : (f : Int) < g 0) (b : BR g f r L) (w : WS g r r f L L1) (w2 : ∀ i j, wX g i j → L1 i = r → L1 j ≤ r) (h : WS g r (r + 1) f L1 L2) (h2 : ∀ i j, rX g i j → L2 i = r → L2 j ≤ r + 1) (hr : r < 10) : BR g f (r + 1) L2 := by
  have hb := b.rg
  have c1 := w.ch
  have c2 := h.ch
  refine BR.mk (fun i hi => ?_) (h.dm (w.dm b.dm)) ?_ (fun i j hw hl => ?_) (fun i j hw hl => ?_) ?_
  · have := hb i hi
    have := c1 i hi
    have := c2 i hi
    omega
  · have := b.ff
    have := c1 f hf
    have := c2 f hf
    omega
  · have a1 := hb i hw.1
    have a2 := c1 i hw.1
    have a3 := c2 i hw.1
    have b2 := c1 j hw.2.1
    have b3 := c2 j hw.2.1
    by_cases e : L1 i = r
    · have := w2 i j hw e
      omega
    · have := b.w i j hw (by omega)
      omega
  · have a1 := hb i hw.1
    have a2 := c1 i hw.1
    have a3 := c2 i hw.1
    have b2 := c1 j hw.2.1
    have b3 := c2 j hw.2.1
    by_cases e : L2 i = r
    · have := h2 i j hw e
      omega
    · have := b.r i j hw (by omega)
      omega
  · by_cases z : lvl g L r = 0
    · left
      have e1 := w.em z
      have z1 : lvl g L1 r = 0 := by
        rw [← z]; exact ctk_congr (fun k hk => by rw [e1 k (by omega)])
      have e2 := h.em z1
      by_cases q : lvl g L2 ((r + 1 : Nat) : Int) = 0
      · exact q
      · obtain ⟨k, k1, k2⟩ := ctk_ex _ q
        simp only [decide_eq_true_eq] at k2
        have := e1 k (by omega)
        have := e2 k (by omega)
        have := hb k (by omega)
        omega
    · right
      obtain ⟨k, k1, k2⟩ := ctk_ex _ z
      simp only [decide_eq_true_eq] at k2
      have h3 : (r : Int) ≤ bel g L r := by
        rcases b.n with h | h
        · exact absurd h z
        · exact h
      have h4 := ctk_lt (p := fun i => decide (L i < (r : Int))) (q := fun i => decide (L2 i < ((r + 1 : Nat) : Int))) (j := k) (g 0).toNat (fun m hm hp => by
        simp only [decide_eq_true_eq] at hp ⊢
        have := c1 m (by omega)
        have := c2 m (by omega)
        omega) k1 (by simp [k2]) (by
        have := c1 k (by omega)
        have := c2 k (by omega)
        simp only [decide_eq_true_eq]
        omega)
      unfold bel at h3 ⊢
      omega
theorem BR.fin (hs : 0 ≤ g 0 ∧ g 0 ≤ 10) (b : BR g f 10 L) : BV g f L ∧ ∀ i : Nat, (i : Int) < g 0 → L i < 10 ∨ L i = 1000000000 := by
  have no : ∀ i : Nat, (i : Int) < g 0 → L i ≠ 10 := fun i hi h => by
    have h1 := ctk_one (p := fun i => decide (L i = ((10 : Nat) : Int))) (k := i) (g 0).toNat (by omega) (by simp [h])
    rcases b.n with h2 | h2
    · unfold lvl at h2; omega
    · unfold bel at h2
      have := ctk_full (p := fun i => decide (L i < ((10 : Nat) : Int))) (g 0).toNat (by omega) i (by omega)
      simp only [decide_eq_true_eq] at this
      omega
  refine ⟨BV.mk (fun i hi => ?_) ⟨fun i j hw => ?_, fun i j hw hl => ?_⟩ b.dm (by rw [b.ff]; omega), fun i hi => ?_⟩
  · have := b.rg i hi; omega
  · have h1 := b.rg i hw.1
    have h2 := no i hw.1
    have h3 := b.rg j hw.2.1
    by_cases e : L i < 10
    · exact b.w i j hw (by omega)
    · omega
  · have h1 := b.rg i hw.1
    have h2 := no i hw.1
    exact b.r i j hw (by omega)
  · have h1 := b.rg i hi
    have h2 := no i hi
    omega
theorem c_s18 (G : GI K g) (hN : 30 < N) (hf : (f : Int) < g 0) : ∀ (n r : Nat) (s : Sm), r ≤ 10 → 10 - r < n → NR 1 s g → RW 1 s → BR g f r (s 377) → ∃ s', f_X2_searchRounds_18 N 376 1 n s r = some s' ∧ FB s s' ∧ BR g f 10 (s' 377) := by
  intro n
  induction n with
  | zero => intro r s _ h; omega
  | succ n ih =>
    intro r s hr hn nr R b
    rw [f_X2_searchRounds_18]
    by_cases e : 10 ≤ (r : Int)
    · rw [if_pos e]
      have : r = 10 := by omega
      subst this
      exact ⟨s, rfl, FB.refl _, b⟩
    · rw [if_neg e]
      obtain ⟨s1, q1, q2, q3, q4⟩ := c_walkAll (N := N) (f := f) nr G R hN (r : Int)
      have nr1 := q2.nr nr G R
      obtain ⟨s2, t1, t2, t3, t4⟩ := c_s33 (N := N) (f := f) nr1 G (q2.rw R) (by omega) (x3 := (r : Int)) (by omega)
      rw [q1, Option.bind_some, t1, Option.bind_some]
      obtain ⟨s3, u1, u2, u3⟩ := ih (r + 1) s2 (by omega) (by omega) (t2.nr nr1 G (q2.rw R)) (t2.rw (q2.rw R)) (b.step hf q3 q4 t3 t4 (by omega))
      exact ⟨s3, u1, (q2.trans t2).trans u2, u3⟩
theorem c_fill (σ : Sm) (r0 K0 : Nat) (x : Int) (ha : alen K0 < N) : ∃ s, f_J7_fill_53178 N σ r0 K0 x = some s ∧ (∀ r, r ≠ r0 → s r = σ r) ∧ ∀ i, i < alen K0 → s r0 i = x := by
  obtain ⟨v, ⟨p1, p2⟩, e⟩ := lp_inv (fun n (v : Sm) k => f_J7_fill_53178_5 r0 K0 x (alen K0 : Nat) n v k) id (fun k v => (∀ r, r ≠ r0 → v r = σ r) ∧ ∀ i, i < k → v r0 i = x) (alen K0) (fun n' v hP => by
      show f_J7_fill_53178_5 r0 K0 x (alen K0 : Nat) (n' + 1) v ((alen K0 : Nat) : Int) = _
      rw [f_J7_fill_53178_5, if_pos (by omega)]; rfl) (fun n' k v hk hP => by
      obtain ⟨p1, p2⟩ := hP
      refine ⟨upm v r0 k x, ⟨fun r h => by rw [upm_role h]; exact p1 r h, fun i hi => ?_⟩, ?_⟩
      · by_cases e : i = k
        · subst e; exact upm_same _ _ _ _
        · rw [upm_cell e]; exact p2 i (by omega)
      · show f_J7_fill_53178_5 r0 K0 x (alen K0 : Nat) (n' + 1) v (k : Int) = f_J7_fill_53178_5 r0 K0 x (alen K0 : Nat) n' (upm v r0 k x) ((k + 1 : Nat) : Int)
        rw [f_J7_fill_53178_5, if_neg (by omega), if_pos (by omega), Int.toNat_natCast, bl_eq]; rfl) N 0 σ (by omega) (by omega) ⟨fun _ _ => rfl, fun i hi => by omega⟩
  refine ⟨v, ?_, p1, p2⟩
  unfold f_J7_fill_53178
  rw [bl_eq, show f_J7_fill_53178_5 r0 K0 x (alen K0 : Nat) N σ 0 = some v from e]; rfl
theorem c_leastB (n : NR 1 σ g) (G : GI K g) (R : RW 1 σ) (hN : 200 < N) (hf : (f : Int) < g 0) : ∃ s, f_X2_searchRounds N σ 376 1 f = some s ∧ FB σ s ∧ BV g f (s 377) ∧ ∀ i : Nat, (i : Int) < g 0 → s 377 i < 10 ∨ s 377 i = 1000000000 := by
  have h0 := G.st
  obtain ⟨s1, q1, q2, q3⟩ := c_fill (N := N) σ 377 20 1000000000 (show alen 20 < N by show 10 < N; omega)
  have q3' : ∀ i, i < 10 → s1 377 i = 1000000000 := q3
  have fb : FB σ (upm s1 377 f 0) := fun r h => by rw [upm_role h]; exact q2 r h
  have val : ∀ i : Nat, (i : Int) < g 0 → upm s1 377 f 0 377 i = if i = f then 0 else 1000000000 := fun i hi => by
    by_cases e : i = f
    · subst e; rw [upm_same, if_pos rfl]
    · rw [upm_cell e, if_neg e]; exact q3' i (by omega)
  have b0 : BR g f 0 (upm s1 377 f 0 377) := by
    refine BR.mk (fun i hi => ?_) (fun C h1 h2 h3 i hi => ?_) (upm_same _ _ _ _) (fun i j hw hl => ?_) (fun i j hw hl => ?_) (Or.inr (ctk_rng _ _).1)
    · rw [val i hi]; split
      · left; omega
      · right; rfl
    · rw [val i hi]
      have := h2 i hi
      by_cases e : i = f
      · subst e; rw [if_pos rfl]; exact h3
      · rw [if_neg e]; omega
    · rw [val i hw.1] at hl; split at hl <;> omega
    · rw [val i hw.1] at hl; split at hl <;> omega
  obtain ⟨s2, t1, t2, t3⟩ := c_s18 (N := N) G (by omega) hf N 0 _ (by omega) (by omega) (fb.nr n G R) (fb.rw R) b0
  refine ⟨s2, ?_, fb.trans t2, t3.fin h0⟩
  unfold f_X2_searchRounds
  rw [show f_J7_fill_53178 N σ (376 + 1) 20 1000000000 = some s1 from q1, Option.bind_some, if_pos (by omega), Int.toNat_natCast, bl_eq, show f_X2_searchRounds_18 N 376 1 N (upm s1 (376 + 1) f 0) 0 = some s2 from t1]; rfl
end BE
