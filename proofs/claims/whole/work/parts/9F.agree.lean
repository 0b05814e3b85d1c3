/-! agreement of class and model, part 9F -/
/-! the class's table of boardings -/
def FT (σ s : Sm) : Prop := ∀ r, r ≠ 378 → s r = σ r
def tb (s : Sm) (i j : Nat) : Int := s 378 (10 * i + j)
def mn2 (x y : Int) : Int := if x ≤ y then x else y
def TG (g : Ga) (T : Nat → Nat → Int) : Prop := (∀ a b : Nat, (a : Int) < g 0 → (b : Int) < g 0 → 0 ≤ T a b ∧ T a b ≤ 1000000000) ∧ (∀ a : Nat, (a : Int) < g 0 → T a a = 0) ∧ (∀ a b, wX g a b → T a b ≤ 0) ∧ (∀ a b, rX g a b → T a b ≤ 1) ∧ (∀ C : Ga, bcl g C → (∀ i : Nat, (i : Int) < g 0 → 0 ≤ C i ∧ C i ≤ 1000000000) → ∀ a b : Nat, (a : Int) < g 0 → (b : Int) < g 0 → C b ≤ C a + T a b)
theorem TG.rg {g : Ga} {T : Nat → Nat → Int} (h : TG g T) : ∀ a b : Nat, (a : Int) < g 0 → (b : Int) < g 0 → 0 ≤ T a b ∧ T a b ≤ 1000000000 := h.1
theorem TG.dg {g : Ga} {T : Nat → Nat → Int} (h : TG g T) : ∀ a : Nat, (a : Int) < g 0 → T a a = 0 := h.2.1
theorem TG.w {g : Ga} {T : Nat → Nat → Int} (h : TG g T) : ∀ a b, wX g a b → T a b ≤ 0 := h.2.2.1
theorem TG.r {g : Ga} {T : Nat → Nat → Int} (h : TG g T) : ∀ a b, rX g a b → T a b ≤ 1 := h.2.2.2.1
theorem TG.dm {g : Ga} {T : Nat → Nat → Int} (h : TG g T) : ∀ C : Ga, bcl g C → (∀ i : Nat, (i : Int) < g 0 → 0 ≤ C i ∧ C i ≤ 1000000000) → ∀ a b : Nat, (a : Int) < g 0 → (b : Int) < g 0 → C b ≤ C a + T a b := h.2.2.2.2
theorem TG.mk {g : Ga} {T : Nat → Nat → Int} (rg9 : ∀ a b : Nat, (a : Int) < g 0 → (b : Int) < g 0 → 0 ≤ T a b ∧ T a b ≤ 1000000000) (dg9 : ∀ a : Nat, (a : Int) < g 0 → T a a = 0) (w9 : ∀ a b, wX g a b → T a b ≤ 0) (r9 : ∀ a b, rX g a b → T a b ≤ 1) (dm9 : ∀ C : Ga, bcl g C → (∀ i : Nat, (i : Int) < g 0 → 0 ≤ C i ∧ C i ≤ 1000000000) → ∀ a b : Nat, (a : Int) < g 0 → (b : Int) < g 0 → C b ≤ C a + T a b) : TG g T := ⟨rg9, dg9, w9, r9, dm9⟩
def Tri (g : Ga) (m : Nat) (T : Nat → Nat → Int) : Prop := ∀ k a b : Nat, k < m → (k : Int) < g 0 → (a : Int) < g 0 → (b : Int) < g 0 → T a b ≤ T a k + T k b
def dirP (g : Ga) (a b : Nat) (v : Int) : Prop := (a = b ∧ v = 0) ∨ (wX g a b ∧ v = 0) ∨ (a ≠ b ∧ ¬ wX g a b ∧ rX g a b ∧ v = 1) ∨ (a ≠ b ∧ ¬ wX g a b ∧ ¬ rX g a b ∧ v = 1000000000)
section BT
variable {σ s : Sm} {g : Ga} {K : Int} {N f m i : Nat} {T T' : Nat → Nat → Int}
theorem FT.refl (σ : Sm) : FT σ σ := fun _ _ => rfl
theorem FT.trans {υ : Sm} (h : FT σ s) (h2 : FT s υ) : FT σ υ := fun r h3 => (h2 r h3).trans (h r h3)
theorem FT.nr (h : FT σ s) (n : NR 1 σ g) (G : GI K g) (R : RW 1 σ) : NR 1 s g := n.same R G.tk.2 G.ln.2 (fun r h1 h2 => h r (by omega))
theorem FT.rw (h : FT σ s) (R : RW 1 σ) : RW 1 s := R.same (h 7 (by omega))
theorem c_tE (s : Sm) {i j : Nat} (hi : i < 10) (hj : j < 10) : f_X2_tableEntry s 376 i j = some (tb s i j) := by
  unfold f_X2_tableEntry tb
  rw [if_pos (by omega), show ((i : Int) * 10 + j).toNat = 10 * i + j by omega]
theorem tb_same (s : Sm) (i j : Nat) (v : Int) : tb (upm s 378 (10 * i + j) v) i j = v := upm_same _ _ _ _
theorem tb_ne (s : Sm) {i j a b : Nat} (v : Int) (hj : j < 10) (hb : b < 10) (h : a ≠ i ∨ b ≠ j) : tb (upm s 378 (10 * i + j) v) a b = tb s a b := by
  unfold tb
  rw [upm_cell (by omega)]
theorem mn2_eq {x y : Int} (h : x ≤ y) : mn2 x y = x := if_pos h
theorem c_c17 (hs : 0 ≤ g 0 ∧ g 0 ≤ 10) (hN : 16 < N) (hm : (m : Int) < g 0) (hi : (i : Int) < g 0) (σ : Sm) (r : ∀ a b : Nat, (a : Int) < g 0 → (b : Int) < g 0 → 0 ≤ tb σ a b ∧ tb σ a b ≤ 1000000000) (d : tb σ m m = 0) : ∃ s, f_X2_combine_17 376 (g 0) m i N σ 0 = some s ∧ FT σ s ∧ ∀ a b : Nat, (a : Int) < g 0 → (b : Int) < g 0 → tb s a b = if a = i then mn2 (tb σ a b) (tb σ a m + tb σ m b) else tb σ a b := by
  obtain ⟨z, hz⟩ := Int.eq_ofNat_of_zero_le hs.1
  obtain ⟨v, ⟨p1, p2⟩, e⟩ := lp_inv (fun n (v : Sm) k => f_X2_combine_17 376 (g 0) m i n v k) id (fun k v => FT σ v ∧ ∀ a b : Nat, (a : Int) < g 0 → (b : Int) < g 0 → tb v a b = if a = i ∧ b < k then mn2 (tb σ a b) (tb σ a m + tb σ m b) else tb σ a b) z (fun n' v hP => by
      show f_X2_combine_17 376 (g 0) m i (n' + 1) v (z : Int) = _
      rw [f_X2_combine_17, if_pos (by omega)]; rfl) (fun n' k v hk hP => by
      obtain ⟨p1, p2⟩ := hP
      have hks : (k : Int) < g 0 := by omega
      have e1 : tb v i m = tb σ i m := by
        rw [p2 i m hi hm]
        split
        · rw [d]; exact mn2_eq (by omega)
        · rfl
      have e2 : tb v m k = tb σ m k := by
        rw [p2 m k hm hks]
        split
        · omega
        · rfl
      have e3 : tb v i k = tb σ i k := by
        rw [p2 i k hi hks, if_neg (by omega)]
      have b1 := r i m hi hm
      have b2 := r m k hm hks
      have b3 := r i k hi hks
      have head : f_X2_combine_17 376 (g 0) m i (n' + 1) v (k : Int) = (if tb σ i k ≤ tb σ i m + tb σ m k then f_X2_combine_17 376 (g 0) m i n' v ((k : Int) + 1) else f_X2_combine_17 376 (g 0) m i n' (upm v 378 (10 * i + k) (tb σ i m + tb σ m k)) ((k : Int) + 1)) := by
        rw [f_X2_combine_17, if_neg (by omega), c_tE v (by omega) (by omega), Option.bind_some, c_tE v (by omega) (by omega), Option.bind_some, bl_eq, c_tE v (by omega) (by omega), Option.bind_some, e1, e2, e3, if_pos (by unfold rng; omega)]
        by_cases q : tb σ i k ≤ tb σ i m + tb σ m k
        · rw [if_pos q, if_pos q]
        · rw [if_neg q, if_neg q, if_pos (by omega), bl_eq, show ((i : Int) * 10 + k).toNat = 10 * i + k by omega]
      by_cases q : tb σ i k ≤ tb σ i m + tb σ m k
      · refine ⟨v, ⟨p1, fun a b ha hb => ?_⟩, ?_⟩
        · rw [p2 a b ha hb]
          by_cases h1 : a = i ∧ b < k
          · rw [if_pos h1, if_pos (by omega)]
          · rw [if_neg h1]
            by_cases h2 : a = i ∧ b < k + 1
            · rw [if_pos h2]
              have : b = k := by omega
              subst this
              obtain ⟨rfl, -⟩ := h2
              exact (mn2_eq q).symm
            · rw [if_neg h2]
        · show f_X2_combine_17 376 (g 0) m i (n' + 1) v (k : Int) = _
          rw [head, if_pos q]; rfl
      · refine ⟨upm v 378 (10 * i + k) (tb σ i m + tb σ m k), ⟨p1.trans (fun r h => upm_role h), fun a b ha hb => ?_⟩, ?_⟩
        · by_cases h0 : a = i ∧ b = k
          · obtain ⟨rfl, rfl⟩ := h0
            rw [tb_same, if_pos (by omega)]
            unfold mn2; rw [if_neg q]
          · rw [tb_ne _ _ (by omega) (by omega) (by omega), p2 a b ha hb]
            by_cases h1 : a = i ∧ b < k
            · rw [if_pos h1, if_pos (by omega)]
            · rw [if_neg h1, if_neg (by omega)]
        · show f_X2_combine_17 376 (g 0) m i (n' + 1) v (k : Int) = _
          rw [head, if_neg q]; rfl) N 0 σ (by omega) (by omega) ⟨FT.refl _, fun a b _ _ => by rw [if_neg (by omega)]⟩
  refine ⟨v, e, p1, fun a b ha hb => ?_⟩
  rw [p2 a b ha hb]
  by_cases h1 : a = i
  · rw [if_pos h1, if_pos (by omega)]
  · rw [if_neg h1, if_neg (by omega)]
theorem mn2_rng {x y : Int} (hx : 0 ≤ x ∧ x ≤ 1000000000) (hy : 0 ≤ y) : 0 ≤ mn2 x y ∧ mn2 x y ≤ 1000000000 := by
  unfold mn2; split <;> omega
theorem c_c9 (hs : 0 ≤ g 0 ∧ g 0 ≤ 10) (hN : 16 < N) (hm : (m : Int) < g 0) (σ : Sm) (r : ∀ a b : Nat, (a : Int) < g 0 → (b : Int) < g 0 → 0 ≤ tb σ a b ∧ tb σ a b ≤ 1000000000) (d : tb σ m m = 0) : ∃ s, f_X2_combine_9 N 376 (g 0) m N σ 0 = some s ∧ FT σ s ∧ ∀ a b : Nat, (a : Int) < g 0 → (b : Int) < g 0 → tb s a b = mn2 (tb σ a b) (tb σ a m + tb σ m b) := by
  obtain ⟨z, hz⟩ := Int.eq_ofNat_of_zero_le hs.1
  obtain ⟨v, ⟨p1, p2⟩, e⟩ := lp_inv (fun n (v : Sm) k => f_X2_combine_9 N 376 (g 0) m n v k) id (fun k v => FT σ v ∧ ∀ a b : Nat, (a : Int) < g 0 → (b : Int) < g 0 → tb v a b = if a < k then mn2 (tb σ a b) (tb σ a m + tb σ m b) else tb σ a b) z (fun n' v hP => by
      show f_X2_combine_9 N 376 (g 0) m (n' + 1) v (z : Int) = _
      rw [f_X2_combine_9, if_pos (by omega)]; rfl) (fun n' k v hk hP => by
      obtain ⟨p1, p2⟩ := hP
      have hks : (k : Int) < g 0 := by omega
      have em : ∀ b : Nat, (b : Int) < g 0 → tb v m b = tb σ m b := fun b hb => by
        rw [p2 m b hm hb]
        split
        · exact mn2_eq (by omega)
        · rfl
      have rv : ∀ a b : Nat, (a : Int) < g 0 → (b : Int) < g 0 → 0 ≤ tb v a b ∧ tb v a b ≤ 1000000000 := fun a b ha hb => by
        rw [p2 a b ha hb]
        have h1 := r a b ha hb
        have h2 := r a m ha hm
        have h3 := r m b hm hb
        split
        · exact mn2_rng h1 (by omega)
        · exact h1
      obtain ⟨w, w1, w2, w3⟩ := c_c17 (N := N) hs hN hm hks v rv (by rw [em m hm]; exact d)
      refine ⟨w, ⟨p1.trans w2, fun a b ha hb => ?_⟩, ?_⟩
      · rw [w3 a b ha hb, em b hb, p2 a b ha hb, p2 a m ha hm]
        by_cases h1 : a = k
        · rw [if_pos h1, if_neg (by omega), if_neg (by omega), if_pos (by omega)]
        · rw [if_neg h1]
          by_cases h2 : a < k
          · rw [if_pos h2, if_pos (by omega)]
          · rw [if_neg h2, if_neg (by omega)]
      · show f_X2_combine_9 N 376 (g 0) m (n' + 1) v (k : Int) = _
        rw [f_X2_combine_9, if_neg (by omega), w1, Option.bind_some]; rfl) N 0 σ (by omega) (by omega) ⟨FT.refl _, fun a b _ _ => by rw [if_neg (by omega)]⟩
  refine ⟨v, e, p1, fun a b ha hb => ?_⟩
  rw [p2 a b ha hb, if_pos (by omega)]
/-- one middle more -/
theorem TG.mid (h : TG g T) (t : Tri g m T) (hm : (m : Int) < g 0) (e : ∀ a b : Nat, (a : Int) < g 0 → (b : Int) < g 0 → T' a b = mn2 (T a b) (T a m + T m b)) : TG g T' ∧ Tri g (m + 1) T' := by
  have le1 : ∀ a b : Nat, (a : Int) < g 0 → (b : Int) < g 0 → T' a b ≤ T a b ∧ T' a b ≤ T a m + T m b ∧ (T' a b = T a b ∨ T' a b = T a m + T m b) := fun a b ha hb => by
    rw [e a b ha hb]; unfold mn2; split <;> omega
  have nn : ∀ a b : Nat, (a : Int) < g 0 → (b : Int) < g 0 → 0 ≤ T' a b := fun a b ha hb => by
    have h1 := le1 a b ha hb
    have h2 := h.rg a b ha hb
    have h3 := h.rg a m ha hm
    have h4 := h.rg m b hm hb
    omega
  refine ⟨TG.mk (fun a b ha hb => ?_) (fun a ha => ?_) (fun a b hw => ?_) (fun a b hw => ?_) (fun C h1 h2 a b ha hb => ?_), fun k a b hk hks ha hb => ?_⟩
  · have h1 := le1 a b ha hb
    have h2 := h.rg a b ha hb
    have h3 := nn a b ha hb
    omega
  · have h1 := le1 a a ha ha
    have h2 := h.dg a ha
    have h3 := nn a a ha ha
    omega
  · have h1 := le1 a b hw.1 hw.2.1
    have h2 := h.w a b hw
    omega
  · have h1 := le1 a b hw.1 hw.2.1
    have h2 := h.r a b hw
    omega
  · have h3 := le1 a b ha hb
    have h4 := h.dm C h1 h2 a b ha hb
    have h5 := h.dm C h1 h2 a m ha hm
    have h6 := h.dm C h1 h2 m b hm hb
    omega
  · have q1 := le1 a b ha hb
    have q2 := le1 a k ha hks
    have q3 := le1 k b hks hb
    have dm := h.dg m hm
    by_cases ek : k = m
    · subst ek
      have r1 : T' a k = T a k := by
        rw [e a k ha hks]; exact mn2_eq (by omega)
      have r2 : T' k b = T k b := by
        rw [e k b hks hb]; exact mn2_eq (by omega)
      omega
    · have hk' : k < m := by omega
      have t1 := t k a b hk' hks ha hb
      have t2 := t k m b hk' hks hm hb
      have t3 := t k a m hk' hks ha hm
      have t4 := h.rg m k hm hks
      have t5 := h.rg k m hks hm
      rcases q2.2.2 with x | x <;> rcases q3.2.2 with y | y <;> omega
theorem c_combine (hs : 0 ≤ g 0 ∧ g 0 ≤ 10) (hN : 16 < N) (σ : Sm) (h : TG g (tb σ)) : ∃ s, f_X2_combine N σ 376 (g 0) = some s ∧ FT σ s ∧ TG g (tb s) ∧ Tri g (g 0).toNat (tb s) := by
  obtain ⟨z, hz⟩ := Int.eq_ofNat_of_zero_le hs.1
  obtain ⟨v, ⟨p1, p2, p3⟩, e⟩ := lp_inv (fun n (v : Sm) k => f_X2_combine_2 N 376 (g 0) n v k) id (fun k v => FT σ v ∧ TG g (tb v) ∧ Tri g k (tb v)) z (fun n' v hP => by
      show f_X2_combine_2 N 376 (g 0) (n' + 1) v (z : Int) = _
      rw [f_X2_combine_2, if_pos (by omega)]; rfl) (fun n' k v hk hP => by
      obtain ⟨p1, p2, p3⟩ := hP
      have hks : (k : Int) < g 0 := by omega
      obtain ⟨w, w1, w2, w3⟩ := c_c9 (N := N) hs hN hks v p2.rg (p2.dg k hks)
      obtain ⟨t1, t2⟩ := p2.mid p3 hks w3
      refine ⟨w, ⟨p1.trans w2, t1, t2⟩, ?_⟩
      show f_X2_combine_2 N 376 (g 0) (n' + 1) v (k : Int) = _
      rw [f_X2_combine_2, if_neg (by omega), w1, Option.bind_some]; rfl) N 0 σ (by omega) (by omega) ⟨FT.refl _, h, fun k a b hk => by omega⟩
  refine ⟨v, ?_, p1, p2, ?_⟩
  · unfold f_X2_combine
    rw [show f_X2_combine_2 N 376 (g 0) N σ 0 = some v from e]; rfl
  · rw [show (g 0).toNat = z by omega]; exact p3
theorem c_directly (n : NR 1 σ g) (G : GI K g) (hN : 16 < N) {a b : Nat} (ha : (a : Int) < g 0) (hb : (b : Int) < g 0) : ∃ v, f_X2_directly N σ 1 a b = some v ∧ dirP g a b v := by
  unfold f_X2_directly
  by_cases e : a = b
  · rw [if_pos (by omega)]; exact ⟨0, rfl, Or.inl ⟨e, rfl⟩⟩
  · rw [if_neg (by omega)]
    obtain ⟨v, h1, h2⟩ := c_canW n G ha hb
    rw [h1, Option.bind_some]
    rcases h2 with ⟨rfl, h2⟩ | ⟨rfl, h2⟩
    · rw [if_neg (by decide)]; exact ⟨0, rfl, Or.inr (Or.inl ⟨h2, rfl⟩)⟩
    · rw [if_pos rfl]
      obtain ⟨w, h3, h4⟩ := c_canRide (N := N) n G hN ha hb
      rw [h3, Option.bind_some]
      rcases h4 with ⟨rfl, h4⟩ | ⟨rfl, h4⟩
      · rw [if_neg (by decide)]; exact ⟨1, rfl, Or.inr (Or.inr (Or.inl ⟨e, h2, h4, rfl⟩))⟩
      · rw [if_pos rfl]; exact ⟨_, rfl, Or.inr (Or.inr (Or.inr ⟨e, h2, h4, rfl⟩))⟩
theorem TG.of (h : ∀ a b : Nat, (a : Int) < g 0 → (b : Int) < g 0 → dirP g a b (T a b)) : TG g T := by
  refine TG.mk (fun a b ha hb => ?_) (fun a ha => ?_) (fun a b hw => ?_) (fun a b hw => ?_) (fun C h1 h2 a b ha hb => ?_)
  · rcases h a b ha hb with ⟨-, h⟩ | ⟨-, h⟩ | ⟨-, -, -, h⟩ | ⟨-, -, -, h⟩ <;> omega
  · rcases h a a ha ha with ⟨-, h⟩ | ⟨-, h⟩ | ⟨h, -⟩ | ⟨h, -⟩
    · exact h
    · exact h
    · exact absurd rfl h
    · exact absurd rfl h
  · rcases h a b hw.1 hw.2.1 with ⟨-, h⟩ | ⟨-, h⟩ | ⟨-, h, -⟩ | ⟨-, h, -⟩
    · omega
    · omega
    · exact absurd hw h
    · exact absurd hw h
  · rcases h a b hw.1 hw.2.1 with ⟨-, h⟩ | ⟨-, h⟩ | ⟨-, -, -, h⟩ | ⟨-, -, h, -⟩
    · omega
    · omega
    · omega
    · exact absurd hw h
  · have b1 := h2 a ha
    have b2 := h2 b hb
    rcases h a b ha hb with ⟨e, h⟩ | ⟨hw, h⟩ | ⟨-, -, hr, h⟩ | ⟨-, -, -, h⟩
    · subst e; omega
    · have := h1.1 a b hw; omega
    · by_cases q : C a < 1000000000
      · have := h1.2 a b hr q; omega
      · omega
    · omega
theorem c_f12 (n : NR 1 σ g) (G : GI K g) (R : RW 1 σ) (hN : 16 < N) (hi : (i : Int) < g 0) : ∃ s, f_X2_fillTable_12 N 376 1 i N σ 0 = some s ∧ FT σ s ∧ (∀ b : Nat, (b : Int) < g 0 → dirP g i b (tb s i b)) ∧ ∀ a b : Nat, a ≠ i → b < 10 → tb s a b = tb σ a b := by
  have hs := G.st
  obtain ⟨z, hz⟩ := Int.eq_ofNat_of_zero_le hs.1
  obtain ⟨v, ⟨p1, p2, p3⟩, e⟩ := lp_inv (fun n (v : Sm) k => f_X2_fillTable_12 N 376 1 i n v k) id (fun k v => FT σ v ∧ (∀ b : Nat, b < k → dirP g i b (tb v i b)) ∧ ∀ a b : Nat, a ≠ i → b < 10 → tb v a b = tb σ a b) z (fun n' v hP => by
      have nn := hP.1.nr n G R
      show f_X2_fillTable_12 N 376 1 i (n' + 1) v (z : Int) = _
      rw [f_X2_fillTable_12, nn.st, if_pos (by omega)]; rfl) (fun n' k v hk hP => by
      obtain ⟨p1, p2, p3⟩ := hP
      have nn := p1.nr n G R
      have hks : (k : Int) < g 0 := by omega
      obtain ⟨w, w1, w2⟩ := c_directly (N := N) nn G hN hi hks
      refine ⟨upm v 378 (10 * i + k) w, ⟨p1.trans (fun r h => upm_role h), fun b hb => ?_, fun a b ha hb => ?_⟩, ?_⟩
      · by_cases e : b = k
        · subst e; rw [tb_same]; exact w2
        · rw [tb_ne _ _ (by omega) (by omega) (by omega)]; exact p2 b (by omega)
      · rw [tb_ne _ _ (by omega) hb (Or.inl ha)]; exact p3 a b ha hb
      · show f_X2_fillTable_12 N 376 1 i (n' + 1) v (k : Int) = _
        rw [f_X2_fillTable_12, nn.st, if_neg (by omega), w1, Option.bind_some, if_pos (by omega), bl_eq, show ((i : Int) * 10 + k).toNat = 10 * i + k by omega]; rfl) N 0 σ (by omega) (by omega) ⟨FT.refl _, fun b hb => by omega, fun _ _ _ _ => rfl⟩
  exact ⟨v, e, p1, fun b hb => p2 b (by omega), p3⟩
theorem c_f2 (n : NR 1 σ g) (G : GI K g) (R : RW 1 σ) (hN : 16 < N) : ∃ s, f_X2_fillTable_2 N 376 1 N σ 0 = some s ∧ FT σ s ∧ TG g (tb s) := by
  have hs := G.st
  obtain ⟨z, hz⟩ := Int.eq_ofNat_of_zero_le hs.1
  obtain ⟨v, ⟨p1, p2⟩, e⟩ := lp_inv (fun n (v : Sm) k => f_X2_fillTable_2 N 376 1 n v k) id (fun k v => FT σ v ∧ ∀ a b : Nat, a < k → (b : Int) < g 0 → dirP g a b (tb v a b)) z (fun n' v hP => by
      have nn := hP.1.nr n G R
      show f_X2_fillTable_2 N 376 1 (n' + 1) v (z : Int) = _
      rw [f_X2_fillTable_2, nn.st, if_pos (by omega)]; rfl) (fun n' k v hk hP => by
      obtain ⟨p1, p2⟩ := hP
      have nn := p1.nr n G R
      obtain ⟨w, w1, w2, w3, w4⟩ := c_f12 (N := N) (i := k) nn G (p1.rw R) hN (by omega)
      refine ⟨w, ⟨p1.trans w2, fun a b ha hb => ?_⟩, ?_⟩
      · by_cases e : a = k
        · subst e; exact w3 b hb
        · rw [w4 a b e (by omega)]; exact p2 a b (by omega) hb
      · show f_X2_fillTable_2 N 376 1 (n' + 1) v (k : Int) = _
        rw [f_X2_fillTable_2, nn.st, if_neg (by omega), w1, Option.bind_some]; rfl) N 0 σ (by omega) (by omega) ⟨FT.refl _, fun a b ha => by omega⟩
  exact ⟨v, e, p1, TG.of (fun a b ha hb => p2 a b (by omega) hb)⟩
theorem c_51 (n : NR 1 σ g) (G : GI K g) (R : RW 1 σ) (hN : 16 < N) (h : TG g (tb σ)) {x : Int} (hx : 1 ≤ x ∧ x < 10) (n' : Nat) : ∃ s, f_X2_fillTable_51 N 376 1 (n' + 1) σ x = f_X2_fillTable_51 N 376 1 n' s (x * 2) ∧ FT σ s ∧ NR 1 s g ∧ RW 1 s ∧ TG g (tb s) ∧ Tri g (g 0).toNat (tb s) := by
  obtain ⟨s, q1, q2, q3, q4⟩ := c_combine (N := N) G.st hN σ h
  refine ⟨s, ?_, q2, q2.nr n G R, q2.rw R, q3, q4⟩
  rw [f_X2_fillTable_51, if_neg (by omega), n.st, q1, Option.bind_some, bl_eq, if_pos (by unfold rng; omega)]
theorem c_fillTable (n : NR 1 σ g) (G : GI K g) (R : RW 1 σ) (hN : 16 < N) : ∃ s, f_X2_fillTable N σ 376 1 = some s ∧ FT σ s ∧ ∀ f : Nat, (f : Int) < g 0 → BV g f (tb s f) := by
  have hs := G.st
  obtain ⟨s0, a1, a2, a3⟩ := c_f2 (N := N) n G R hN
  obtain ⟨m, rfl⟩ : ∃ m, N = m + 5 := ⟨N - 5, by omega⟩
  obtain ⟨s1, b1, b2, b3, b4, b5, -⟩ := c_51 (N := m + 5) (a2.nr n G R) G (a2.rw R) hN a3 (x := 1) (by decide) (m + 4)
  obtain ⟨s2, c1, c2, c3, c4, c5, -⟩ := c_51 (N := m + 5) b3 G b4 hN b5 (x := 2) (by decide) (m + 3)
  obtain ⟨s3, d1, d2, d3, d4, d5, -⟩ := c_51 (N := m + 5) c3 G c4 hN c5 (x := 4) (by decide) (m + 2)
  obtain ⟨s4, e1, e2, e3, e4, e5, e6⟩ := c_51 (N := m + 5) d3 G d4 hN d5 (x := 8) (by decide) (m + 1)
  refine ⟨s4, ?_, (((a2.trans b2).trans c2).trans d2).trans e2, fun f hf => ?_⟩
  · unfold f_X2_fillTable
    rw [a1, Option.bind_some, show f_X2_fillTable_51 (m + 5) 376 1 (m + 5) s0 1 = _ from b1, show f_X2_fillTable_51 (m + 5) 376 1 (m + 4) s1 (1 * 2) = _ from c1, show f_X2_fillTable_51 (m + 5) 376 1 (m + 3) s2 (2 * 2) = _ from d1, show f_X2_fillTable_51 (m + 5) 376 1 (m + 2) s3 (4 * 2) = _ from e1, f_X2_fillTable_51, if_pos (by decide)]; rfl
  · have dg := e5.dg f hf
    refine BV.mk (fun i hi => e5.rg f i hf hi) ⟨fun i j hw => ?_, fun i j hw hl => ?_⟩ (fun C h1 h2 h3 i hi => ?_) (by rw [dg]; omega)
    · have h1 := e6 i f j (by have := hw.1; omega) hw.1 hf hw.2.1
      have h2 := e5.w i j hw
      omega
    · have h1 := e6 i f j (by have := hw.1; omega) hw.1 hf hw.2.1
      have h2 := e5.r i j hw
      omega
    · have := e5.dm C h1 h2 f i hf hi
      omega
end BT
