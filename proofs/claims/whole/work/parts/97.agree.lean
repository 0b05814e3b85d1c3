/-! agreement of class and model, part 97 -/
/-! the class's rides -/
section CR2
variable {σ s : Sm} {g : Ga} {K m0 : Int} {N a f : Nat}
theorem pla_at (G : GI K g) {c : Nat} (hc : c < 5) {i : Int} {p : Nat} (h : pla g c i = (p : Int)) : (p : Int) < gl g c 5 ∧ gl g c (7 + p) = i := by
  have sz := (G.li c hc).sz
  unfold pla at h
  rcases ffd_cases (fun p => decide (gl g c (7 + p) = i)) (gl g c 5).toNat with ⟨h1, -⟩ | ⟨k, h1, h2, -, h4⟩
  · omega
  · have : k = p := by omega
    subst this
    exact ⟨by omega, by simpa using h2⟩
theorem pla_un (G : GI K g) {c : Nat} (hc : c < 5) {i : Int} {p : Nat} (hp : (p : Int) < gl g c 5) (h : gl g c (7 + p) = i) : pla g c i = (p : Int) := by
  rcases ffd_cases (fun p => decide (gl g c (7 + p) = i)) (gl g c 5).toNat with ⟨h1, h2⟩ | ⟨k, h1, h2, h3, h4⟩
  · have := h2 p (by omega)
    simp [h] at this
  · have h5 : gl g c (7 + k) = i := by simpa using h2
    have := (G.li c hc).ds k p (by omega) hp (by rw [h5, h])
    subst this
    exact h4
theorem run_sz {c : Nat} (h : run g c = true) : 2 ≤ gl g c 5 ∧ gl g c 6 = 0 := by
  unfold run at h; simpa using h
theorem c_rideLine (n : NR 1 s g) (G : GI K g) (R : RW 1 s) (ha : 366 ≤ a) (hN : 16 < N) {c p i : Nat} (hi : (i : Int) < g 0) (hc : (c : Int) < g 2) (hr : run g c = true) (hp : (p : Int) < gl g c 5) (hs : gl g c (7 + p) = (i : Int)) (ho : opn g i) {m : Int} (hm : 0 ≤ m ∧ m ≤ 9710000) (hR : s (a + 2) i = m) : ∃ s' fl, f_X1_rideLine N s a 1 (1 + 23 + 2 * c) p m = some (s', fl) ∧ FR a s s' ∧ RXs (rEg g i) (s (a + 1)) (s (a + 2)) (s' (a + 1)) (s' (a + 2)) ∧ (∀ l : Int, (p : Int) < l → l ≤ gl g c 5 → ∀ o : Nat, rgs g c l = (o : Int) → opn g o → s' (a + 1) o ≤ whn g c (fstt g c p m) l ∧ s' (a + 2) o ≤ whn g c (fstt g c p m) l + g (12 + 2 * o)) ∧ s' (a + 2) i = m ∧ (fl = 0 ∨ fl = 1) ∧ (fl = 0 → s' = s) := by
  have hc5 : c < 5 := by have := G.ln; omega
  have sz := (G.li c hc5).sz
  have h0 := G.st
  have rs := run_sz hr
  have ft := fstt_rng G hc (p := p) (by omega) (m := m) (by omega)
  have fw := fst_whn G hc (p := p) (by omega) (m := m) (by omega)
  obtain ⟨z, hz⟩ := Int.eq_ofNat_of_zero_le (show 0 ≤ gl g c 5 - p by omega)
  obtain ⟨⟨s', fl⟩, ⟨p1, p2, p3, p4, p5, p6⟩, e⟩ := lp_inv (fun n (v : Sm × Int) k => f_X1_rideLine_21 a 1 (1 + 23 + 2 * c) (fstt g c p m) n v.1 v.2 ((p : Int) + 1 + k)) id (fun k v => FR a s v.1 ∧ RXs (rEg g i) (s (a + 1)) (s (a + 2)) (v.1 (a + 1)) (v.1 (a + 2)) ∧ (∀ l : Int, (p : Int) < l → l < (p : Int) + 1 + (k : Nat) → ∀ o : Nat, rgs g c l = (o : Int) → opn g o → v.1 (a + 1) o ≤ whn g c (fstt g c p m) l ∧ v.1 (a + 2) o ≤ whn g c (fstt g c p m) l + g (12 + 2 * o)) ∧ v.1 (a + 2) i = m ∧ (v.2 = 0 ∨ v.2 = 1) ∧ (v.2 = 0 → v.1 = s)) z (fun q v hP => by
      obtain ⟨p1, p2, p3, p4, p5, p6⟩ := hP
      have n' := p1.nr ha n G R
      show f_X1_rideLine_21 a 1 (1 + 23 + 2 * c) (fstt g c p m) (q + 1) v.1 v.2 ((p : Int) + 1 + (z : Nat)) = _
      rw [f_X1_rideLine_21, (n'.li c hc).2.2.2.2.2.2, if_pos (by omega)]; rfl) (fun q k v hk hP => by
      obtain ⟨p1, p2, p3, p4, p5, p6⟩ := hP
      have n' := p1.nr ha n G R
      have rr := rgs_rng G hc5 (l := (p : Int) + 1 + k) (by omega) (by omega)
      obtain ⟨o, hro⟩ := Int.eq_ofNat_of_zero_le rr.1
      have hoS : (o : Int) < g 0 := by omega
      have wl := whn_rng G hc5 (t := fstt g c p m) (p := (p : Int) + 1 + k) ft (by omega)
      have wp := whn_pos G hc (t := fstt g c p m) (p := p) (l := (p : Int) + 1 + k) (by omega)
      have tr := G.tr o (by omega)
      have ecl : v.1 (1 + 2) (o : Int).toNat = g (13 + 2 * o) := n'.cl o hoS
      have etr : v.1 (1 + 1) (o : Int).toNat = g (12 + 2 * o) := n'.tr o hoS
      by_cases w : g (13 + 2 * o) = 0
      · obtain ⟨s2, f2, r1, r2, r3, r4, r5, r6⟩ := c_reach v.1 a (o := o) (by omega) (whn g c (fstt g c p m) ((p : Int) + 1 + k)) (whn g c (fstt g c p m) ((p : Int) + 1 + k) + g (12 + 2 * o))
        have hE2 : rEg g i (v.1 (a + 1)) (v.1 (a + 2)) o (whn g c (fstt g c p m) ((p : Int) + 1 + k)) (whn g c (fstt g c p m) ((p : Int) + 1 + k) + g (12 + 2 * o)) := ⟨hi, hoS, ho, w, by rw [p4]; omega, c, p, (p : Int) + 1 + k, hc, hr, hp, hs, by omega, by omega, hro, by rw [p4], rfl⟩
        refine ⟨(s2, if f2 = 0 then v.2 else 1), ⟨p1.trans r4, ?_, fun l l1 l2 o' ho' hop => ?_, ?_, ?_, ?_⟩, ?_⟩
        · dsimp only; rw [r2, r3]; exact p2.step hE2
        · dsimp only
          rw [r2, r3]
          by_cases e : l = (p : Int) + 1 + k
          · subst e
            have : o' = o := by omega
            subst this
            rw [rxA_same, rxA_same]
            constructor <;> split <;> omega
          · have h9 := p3 l l1 (by omega) o' ho' hop
            have h8 := rxA_le (v.1 (a + 1)) o o' (whn g c (fstt g c p m) ((p : Int) + 1 + k))
            have h7 := rxA_le (v.1 (a + 2)) o o' (whn g c (fstt g c p m) ((p : Int) + 1 + k) + g (12 + 2 * o))
            omega
        · dsimp only
          rw [r3]
          by_cases e : i = o
          · subst e; rw [rxA_same, p4, if_neg (by omega)]
          · rw [rxA_ne _ _ e]; exact p4
        · dsimp only
          split
          · exact p5
          · exact Or.inr rfl
        · dsimp only
          intro h
          split at h
          · rename_i h2; rw [r6 h2]; exact p6 h
          · cases h
        · show f_X1_rideLine_21 a 1 (1 + 23 + 2 * c) (fstt g c p m) (q + 1) v.1 v.2 ((p : Int) + 1 + (k : Nat)) = f_X1_rideLine_21 a 1 (1 + 23 + 2 * c) (fstt g c p m) q s2 (if f2 = 0 then v.2 else 1) ((p : Int) + 1 + ((k + 1 : Nat) : Int))
          rw [f_X1_rideLine_21, (n'.li c hc).2.2.2.2.2.2, if_neg (by omega), c_stopOn n' G hc (by omega) (by omega), Option.bind_some, hro, if_pos (by omega), ecl, if_pos w, n'.ra, c_whenAt n' G hc ft (by omega), Option.bind_some, etr, if_pos (by unfold rng; omega), r1, Option.bind_some]
          dsimp only
          have hrg : rng ((p : Int) + 1 + k + 1) := by unfold rng; omega
          simp only [if_pos hrg]
          rw [show (p : Int) + 1 + ((k + 1 : Nat) : Int) = (p : Int) + 1 + k + 1 by omega]
          by_cases e : f2 = 0
          · rw [if_pos e, if_pos e]
            rcases p5 with e2 | e2
            · rw [e2, if_pos rfl]
            · rw [e2, if_neg (by decide)]
          · rw [if_neg e, if_neg e]
      · refine ⟨v, ⟨p1, p2, fun l l1 l2 o' ho' hop => ?_, p4, p5, p6⟩, ?_⟩
        · by_cases e : l = (p : Int) + 1 + k
          · subst e
            have : o' = o := by omega
            subst this
            exact absurd hop w
          · exact p3 l l1 (by omega) o' ho' hop
        · show f_X1_rideLine_21 a 1 (1 + 23 + 2 * c) (fstt g c p m) (q + 1) v.1 v.2 ((p : Int) + 1 + (k : Nat)) = f_X1_rideLine_21 a 1 (1 + 23 + 2 * c) (fstt g c p m) q v.1 v.2 ((p : Int) + 1 + ((k + 1 : Nat) : Int))
          rw [f_X1_rideLine_21, (n'.li c hc).2.2.2.2.2.2, if_neg (by omega), c_stopOn n' G hc (by omega) (by omega), Option.bind_some, hro, if_pos (by omega), ecl, if_neg w, if_pos (by unfold rng; omega), show (p : Int) + 1 + ((k + 1 : Nat) : Int) = (p : Int) + 1 + k + 1 by omega]) N 0 (s, 0) (by omega) (by omega) ⟨FR.refl a s, RXs.refl _ _ _, fun l l1 l2 => by omega, hR, Or.inl rfl, fun _ => rfl⟩
  unfold f_X1_rideLine
  rw [n.ra, c_firstTrip n G hc (by omega) (by omega), Option.bind_some, bl_eq, if_pos (by unfold rng; omega)]
  have e' : f_X1_rideLine_21 a 1 (1 + 23 + 2 * c) (fstt g c p m) N s 0 ((p : Int) + 1) = some (s', fl) := by
    have : (p : Int) + 1 + ((0 : Nat) : Int) = (p : Int) + 1 := by omega
    dsimp only at e
    rw [this] at e; exact e
  rw [e', Option.bind_some]
  exact ⟨s', fl, rfl, p1, p2, fun l l1 l2 => p3 l l1 (by omega), p4, p5, p6⟩
theorem c_rideOn (n : NR 1 σ g) (G : GI K g) (R : RW 1 σ) (ha : 366 ≤ a) (hN : 16 < N) (hm : 0 ≤ m0 ∧ m0 ≤ 9700000) (j : JV g f m0 (σ (a + 1)) (σ (a + 2))) {i : Nat} (hi : (i : Int) < g 0) : ∃ σ' fl, f_X1_rideOn N σ a 1 i = some (σ', fl) ∧ FR a σ σ' ∧ RXs (rEg g i) (σ (a + 1)) (σ (a + 2)) (σ' (a + 1)) (σ' (a + 2)) ∧ (∀ o x y, rEg g i (σ (a + 1)) (σ (a + 2)) o x y → σ' (a + 1) o ≤ x ∧ σ' (a + 2) o ≤ y) ∧ (fl = 0 ∨ fl = 1) ∧ (fl = 0 → σ' = σ) := by
  have h0 := G.st
  have hl := G.ln
  have ecl : σ (1 + 2) (i : Int).toNat = g (13 + 2 * i) := n.cl i hi
  unfold f_X1_rideOn
  rw [if_pos (by omega), ecl, Int.toNat_natCast]
  by_cases q : 1000000000 ≤ σ (a + 2) i
  · rw [if_pos q]
    refine ⟨σ, 0, rfl, FR.refl a σ, RXs.refl _ _ _, fun o x y h => ?_, Or.inl rfl, fun _ => rfl⟩
    have := h.2.2.2.2.1
    omega
  · rw [if_neg q]
    by_cases w : g (13 + 2 * i) = 0
    · rw [if_pos w]
      have bA := j.bd G hm hi
      obtain ⟨z, hz⟩ := Int.eq_ofNat_of_zero_le hl.1
      obtain ⟨⟨s', fl⟩, ⟨p1, p2, p3, p4, p5, p6⟩, e⟩ := lp_inv (fun n (v : Sm × Int) k => f_X1_rideOn_27 N a 1 i n v.1 v.2 k) id (fun k v => FR a σ v.1 ∧ RXs (rEg g i) (σ (a + 1)) (σ (a + 2)) (v.1 (a + 1)) (v.1 (a + 2)) ∧ (∀ c p : Nat, c < k → run g c = true → (p : Int) < gl g c 5 → gl g c (7 + p) = (i : Int) → ∀ l : Int, (p : Int) < l → l ≤ gl g c 5 → ∀ o : Nat, rgs g c l = (o : Int) → opn g o → v.1 (a + 1) o ≤ whn g c (fstt g c p (σ (a + 2) i)) l ∧ v.1 (a + 2) o ≤ whn g c (fstt g c p (σ (a + 2) i)) l + g (12 + 2 * o)) ∧ v.1 (a + 2) i = σ (a + 2) i ∧ (v.2 = 0 ∨ v.2 = 1) ∧ (v.2 = 0 → v.1 = σ)) z (fun m v hP => by
          obtain ⟨p1, p2, p3, p4, p5, p6⟩ := hP
          have n' := p1.nr ha n G R
          show f_X1_rideOn_27 N a 1 i (m + 1) v.1 v.2 (z : Int) = _
          rw [f_X1_rideOn_27, n'.ln, if_pos (by omega)]; rfl) (fun m k v hk hP => by
          obtain ⟨p1, p2, p3, p4, p5, p6⟩ := hP
          have n' := p1.nr ha n G R
          have R' : RW 1 v.1 := R.same (p1 7 (by omega) (by omega))
          have hkc : (k : Int) < g 2 := by omega
          have skip : (∀ p : Nat, run g k = true → (p : Int) < gl g k 5 → gl g k (7 + p) = (i : Int) → False) → ∀ c p : Nat, c < k + 1 → run g c = true → (p : Int) < gl g c 5 → gl g c (7 + p) = (i : Int) → ∀ l : Int, (p : Int) < l → l ≤ gl g c 5 → ∀ o : Nat, rgs g c l = (o : Int) → opn g o → v.1 (a + 1) o ≤ whn g c (fstt g c p (σ (a + 2) i)) l ∧ v.1 (a + 2) o ≤ whn g c (fstt g c p (σ (a + 2) i)) l + g (12 + 2 * o) := fun hno c p hc hr hp hs => by
            by_cases e : c = k
            · subst e; exact absurd (hno p hr hp hs) id
            · exact p3 c p (by omega) hr hp hs
          rcases pla_rng g k (i : Int) with hpl | hpl
          · refine ⟨v, ⟨p1, p2, skip (fun p hr hp hs => ?_), p4, p5, p6⟩, ?_⟩
            · have := pla_un G (by omega) hp hs
              omega
            · show f_X1_rideOn_27 N a 1 i (m + 1) v.1 v.2 (k : Int) = f_X1_rideOn_27 N a 1 i m v.1 v.2 ((k + 1 : Nat) : Int)
              rw [f_X1_rideOn_27, n'.ln, if_neg (by omega), if_pos (by omega), Int.toNat_natCast, c_placeOf n' G hkc _ (by omega), Option.bind_some, if_pos hpl]; rfl
          · obtain ⟨p, hp⟩ := Int.eq_ofNat_of_zero_le hpl.1
            obtain ⟨pa1, pa2⟩ := pla_at G (by omega) hp
            by_cases hr : run g k = true
            · obtain ⟨s2, f2, r1, r2, r3, r4, r5, r6, r7⟩ := c_rideLine (N := N) n' G R' ha hN hi hkc hr pa1 pa2 w (m := σ (a + 2) i) (by omega) p4
              refine ⟨(s2, if f2 = 0 then v.2 else 1), ⟨p1.trans r2, p2.trans r3, fun c p' hc hr' hp' hs' l l1 l2 o ho1 ho2 => ?_, r5, ?_, ?_⟩, ?_⟩
              · dsimp only
                by_cases e : c = k
                · subst e
                  have := pla_un G (by omega) hp' hs'
                  have e2 : p' = p := by omega
                  subst e2
                  exact r4 l l1 l2 o ho1 ho2
                · have h9 := p3 c p' (by omega) hr' hp' hs' l l1 l2 o ho1 ho2
                  have h8 := r3.le o
                  omega
              · dsimp only
                split
                · exact p5
                · exact Or.inr rfl
              · dsimp only
                intro h
                split at h
                · rename_i h2; rw [r7 h2]; exact p6 h
                · cases h
              · show f_X1_rideOn_27 N a 1 i (m + 1) v.1 v.2 (k : Int) = f_X1_rideOn_27 N a 1 i m s2 (if f2 = 0 then v.2 else 1) ((k + 1 : Nat) : Int)
                rw [f_X1_rideOn_27, n'.ln, if_neg (by omega), if_pos (by omega), Int.toNat_natCast, c_placeOf n' G hkc _ (by omega), Option.bind_some, if_neg (by omega), c_isRunning n' hkc, Option.bind_some, if_pos hr, if_neg (by decide), if_pos (by omega), Int.toNat_natCast, p4, hp, r1, Option.bind_some]
                dsimp only
                by_cases e : f2 = 0
                · rw [if_pos e, if_pos e]
                  rcases p5 with e2 | e2
                  · rw [e2, if_pos rfl]; rfl
                  · rw [e2, if_neg (by decide)]; rfl
                · rw [if_neg e, if_neg e]; rfl
            · refine ⟨v, ⟨p1, p2, skip (fun p hr2 _ _ => hr hr2), p4, p5, p6⟩, ?_⟩
              show f_X1_rideOn_27 N a 1 i (m + 1) v.1 v.2 (k : Int) = f_X1_rideOn_27 N a 1 i m v.1 v.2 ((k + 1 : Nat) : Int)
              rw [f_X1_rideOn_27, n'.ln, if_neg (by omega), if_pos (by omega), Int.toNat_natCast, c_placeOf n' G hkc _ (by omega), Option.bind_some, if_neg (by omega), c_isRunning n' hkc, Option.bind_some, if_neg hr, if_pos rfl]; rfl) N 0 (σ, 0) (by omega) (by omega) ⟨FR.refl a σ, RXs.refl _ _ _, fun c p hc => by omega, rfl, Or.inl rfl, fun _ => rfl⟩
      rw [show f_X1_rideOn_27 N a 1 i N σ 0 0 = some (s', fl) from e, Option.bind_some]
      refine ⟨s', fl, rfl, p1, p2, fun o x y h => ?_, p5, p6⟩
      obtain ⟨-, -, -, h4, -, c, p, l, hc, hr, hp, hs, hl1, hl2, hro, hx, hy⟩ := h
      have := p3 c p (by omega) hr hp hs l hl1 hl2 o hro h4
      rw [hx, hy, hx]; exact this
    · rw [if_neg w]
      refine ⟨σ, 0, rfl, FR.refl a σ, RXs.refl _ _ _, fun o x y h => ?_, Or.inl rfl, fun _ => rfl⟩
      exact absurd h.2.2.1 w
end CR2
