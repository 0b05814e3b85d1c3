/-! agreement of class and model, part 98 -/
/-! the model's relaxations -/
def FM (μ s : Sm) : Prop := ∀ r, r ≠ 5 → r ≠ 6 → s r = μ r
def pot (g A R : Ga) : Int := smk (fun i => A i + R i) (g 0).toNat
section MR
variable {μ s : Sm} {g A R A' R' : Ga} {K m0 : Int} {N f : Nat}
theorem FM.refl (μ : Sm) : FM μ μ := fun _ _ _ => rfl
theorem FM.trans {υ : Sm} (h : FM μ s) (h2 : FM s υ) : FM μ υ := fun r h3 h4 => (h2 r h3 h4).trans (h r h3 h4)
theorem smk_le {f f' : Nat → Int} {n : Nat} (h : ∀ k, k < n → f k ≤ f' k) : smk f n ≤ smk f' n := by
  induction n with
  | zero => exact Int.le_refl _
  | succ n ih =>
    have h1 := ih (fun k hk => h k (by omega))
    have h2 := h n (by omega)
    unfold smk; omega
theorem smk_lt {f f' : Nat → Int} {n j : Nat} (h : ∀ k, k < n → f k ≤ f' k) (hj : j < n) (h2 : f j + 1 ≤ f' j) : smk f n + 1 ≤ smk f' n := by
  induction n with
  | zero => omega
  | succ n ih =>
    unfold smk
    by_cases e : j = n
    · subst e
      have h1 := smk_le (n := j) (fun k hk => h k (by omega))
      omega
    · have h1 := ih (fun k hk => h k (by omega)) (by omega)
      have h3 := h n (by omega)
      omega
theorem pot_le (h : ∀ i, A' i ≤ A i ∧ R' i ≤ R i) : pot g A' R' ≤ pot g A R := smk_le (fun k _ => by have := h k; omega)
theorem ior_bit {x y : Int} (hx : x = 0 ∨ x = 1) (hy : y = 0 ∨ y = 1) : ior x y = if x = 0 ∧ y = 0 then 0 else 1 := by
  rcases hx with rfl | rfl <;> rcases hy with rfl | rfl <;> rfl
theorem m_comes (μ : Sm) {o : Nat} (ho : o < 10) (x y : Int) : ∃ s fl, f_X13_comes μ o x y = some (s, fl) ∧ s 5 = rxA (μ 5) o x ∧ s 6 = rxA (μ 6) o y ∧ FM μ s ∧ (fl = 0 ∨ fl = 1) ∧ (fl = 0 → s = μ) ∧ (fl ≠ 0 → x < μ 5 o ∨ y < μ 6 o) := by
  have n1 : 6 ≠ 5 := by decide
  have e1 : ∀ v, upm μ 5 o v 6 o = μ 6 o := fun v => by rw [upm_role n1]
  have u1 : ∀ v w, upm (upm μ 5 o v) 6 o w 5 = upf (μ 5) o v := fun v w => by rw [upm_role (by decide), upm_upf]
  have u2 : ∀ v w, upm (upm μ 5 o v) 6 o w 6 = upf (μ 6) o w := fun v w => by rw [upm_upf, upm_role n1]
  have uf : ∀ v w, FM μ (upm (upm μ 5 o v) 6 o w) := fun v w r h1 h2 => by rw [upm_role h2, upm_role h1]
  have id5 : upf (μ 5) o (μ 5 o) = μ 5 := by funext i; unfold upf; split <;> simp_all
  have id6 : upf (μ 6) o (μ 6 o) = μ 6 := by funext i; unfold upf; split <;> simp_all
  unfold f_X13_comes rxA
  rw [if_pos (by omega)]
  simp only [bl_eq, Int.toNat_natCast, e1]
  by_cases q1 : x < μ 5 o
  · rw [if_pos q1, if_neg (show ¬ μ 5 o ≤ x by omega), if_pos q1]
    by_cases q2 : μ 6 o ≤ y
    · rw [if_pos q2, if_neg (show ¬ y < μ 6 o by omega)]
      exact ⟨_, _, rfl, u1 _ _, u2 _ _, uf _ _, Or.inr rfl, (fun h => by cases h), fun _ => Or.inl q1⟩
    · rw [if_neg q2, if_pos (show y < μ 6 o by omega)]
      exact ⟨_, _, rfl, u1 _ _, u2 _ _, uf _ _, Or.inr rfl, (fun h => by cases h), fun _ => Or.inl q1⟩
  · rw [if_neg q1, if_pos (show μ 5 o ≤ x by omega), if_neg q1]
    by_cases q2 : μ 6 o ≤ y
    · rw [if_pos q2, if_pos q2, if_neg (show ¬ y < μ 6 o by omega)]
      refine ⟨_, _, rfl, u1 _ _, u2 _ _, uf _ _, Or.inl rfl, fun _ => ?_, fun h => absurd rfl h⟩
      funext r i
      by_cases e6 : r = 6
      · subst e6; rw [u2, id6]
      · by_cases e5 : r = 5
        · subst e5; rw [u1, id5]
        · rw [uf _ _ r e5 e6]
    · rw [if_neg q2, if_pos (show μ 5 o ≤ x by omega), if_neg q2, if_pos (show y < μ 6 o by omega)]
      exact ⟨_, _, rfl, u1 _ _, u2 _ _, uf _ _, Or.inr rfl, (fun h => by cases h), fun _ => Or.inr (by omega)⟩
/-- what a piece of a round does -/
def RT (g : Ga) (E : Ga → Ga → Nat → Int → Int → Prop) (μ : Sm) (s : Sm) (fl : Int) : Prop := (FM μ s) ∧ (RXs E (μ 5) (μ 6) (s 5) (s 6)) ∧ (fl = 0 ∨ fl = 1) ∧ (fl = 0 → s = μ) ∧ (fl ≠ 0 → pot g (s 5) (s 6) + 1 ≤ pot g (μ 5) (μ 6))
theorem RT.fm {g : Ga} {E : Ga → Ga → Nat → Int → Int → Prop} {μ : Sm} {s : Sm} {fl : Int} (h : RT g E μ s fl) : FM μ s := h.1
theorem RT.rx {g : Ga} {E : Ga → Ga → Nat → Int → Int → Prop} {μ : Sm} {s : Sm} {fl : Int} (h : RT g E μ s fl) : RXs E (μ 5) (μ 6) (s 5) (s 6) := h.2.1
theorem RT.fb {g : Ga} {E : Ga → Ga → Nat → Int → Int → Prop} {μ : Sm} {s : Sm} {fl : Int} (h : RT g E μ s fl) : fl = 0 ∨ fl = 1 := h.2.2.1
theorem RT.id {g : Ga} {E : Ga → Ga → Nat → Int → Int → Prop} {μ : Sm} {s : Sm} {fl : Int} (h : RT g E μ s fl) : fl = 0 → s = μ := h.2.2.2.1
theorem RT.pt {g : Ga} {E : Ga → Ga → Nat → Int → Int → Prop} {μ : Sm} {s : Sm} {fl : Int} (h : RT g E μ s fl) : fl ≠ 0 → pot g (s 5) (s 6) + 1 ≤ pot g (μ 5) (μ 6) := h.2.2.2.2
theorem RT.mk {g : Ga} {E : Ga → Ga → Nat → Int → Int → Prop} {μ : Sm} {s : Sm} {fl : Int} (fm9 : FM μ s) (rx9 : RXs E (μ 5) (μ 6) (s 5) (s 6)) (fb9 : fl = 0 ∨ fl = 1) (id9 : fl = 0 → s = μ) (pt9 : fl ≠ 0 → pot g (s 5) (s 6) + 1 ≤ pot g (μ 5) (μ 6)) : RT g E μ s fl := ⟨fm9, rx9, fb9, id9, pt9⟩
theorem RT.refl (g : Ga) (E : Ga → Ga → Nat → Int → Int → Prop) (μ : Sm) : RT g E μ μ 0 := RT.mk (FM.refl μ) (RXs.refl _ _ _) (Or.inl rfl) (fun _ => rfl) (fun h => absurd rfl h)
theorem RT.or {E : Ga → Ga → Nat → Int → Int → Prop} {s2 : Sm} {f1 f2 : Int} (h : RT g E μ s f1) (h2 : RT g E s s2 f2) : RT g E μ s2 (ior f1 f2) := by
  have e := ior_bit h.fb h2.fb
  refine RT.mk (h.fm.trans h2.fm) (h.rx.trans h2.rx) ?_ ?_ ?_
  · rw [e]; split
    · exact Or.inl rfl
    · exact Or.inr rfl
  · intro q
    rw [e] at q
    split at q
    · rename_i w; rw [h2.id w.2, h.id w.1]
    · cases q
  · intro q
    have l1 := pot_le (g := g) h.rx.le
    have l2 := pot_le (g := g) h2.rx.le
    by_cases w : f1 = 0
    · by_cases w2 : f2 = 0
      · rw [e, if_pos ⟨w, w2⟩] at q; exact absurd rfl q
      · have := h2.pt w2; omega
    · have := h.pt w; omega
theorem RT.mono {E E' : Ga → Ga → Nat → Int → Int → Prop} {f1 : Int} (h : RT g E μ s f1) (hE : ∀ A R o a r, E A R o a r → E' A R o a r) : RT g E' μ s f1 := RT.mk h.fm (h.rx.mono hE) h.fb h.id h.pt
theorem RT.comes {E : Ga → Ga → Nat → Int → Int → Prop} {o : Nat} {x y : Int} (ho : o < 10) (hS : (o : Int) < g 0) (hE : E (μ 5) (μ 6) o x y) : ∃ s fl, f_X13_comes μ o x y = some (s, fl) ∧ RT g E μ s fl ∧ s 5 = rxA (μ 5) o x ∧ s 6 = rxA (μ 6) o y := by
  obtain ⟨s, fl, e1, e2, e3, e4, e5, e6, e7⟩ := m_comes μ ho x y
  refine ⟨s, fl, e1, RT.mk e4 ?_ e5 e6 (fun h => ?_), e2, e3⟩
  · rw [e2, e3]; exact (RXs.refl E _ _).step hE
  · rw [e2, e3]
    have h1 := e7 h
    refine smk_lt (j := o) (fun k _ => ?_) (by omega) ?_
    · have := rx_le (μ 5) (μ 6) o x y k; omega
    · rw [rxA_same, rxA_same]
      rcases h1 with h1 | h1
      · rw [if_pos h1]; split <;> omega
      · rw [if_pos h1]; split <;> omega
theorem m_ridesFrom (G : GI K (μ 1)) (hg : μ 1 = g) (hN : 16 < N) {c p i : Nat} (hi : (i : Int) < g 0) (hc : (c : Int) < g 2) (hr : run g c = true) (hp : (p : Int) < gl g c 5) (hs : gl g c (7 + p) = (i : Int)) (hm : opn g i → μ 6 i ≠ 1000000000 → 0 ≤ μ 6 i ∧ μ 6 i ≤ 9710000) : ∃ s fl, f_X13_ridesFrom N μ c p = some (s, fl) ∧ RT g (rEg g i) μ s fl ∧ (opn g i → μ 6 i ≠ 1000000000 → s 6 i = μ 6 i ∧ ∀ l : Int, (p : Int) < l → l ≤ gl g c 5 → ∀ o : Nat, rgs g c l = (o : Int) → opn g o → s 5 o ≤ whn g c (fstt g c p (μ 6 i)) l ∧ s 6 o ≤ whn g c (fstt g c p (μ 6 i)) l + g (12 + 2 * o)) := by
  subst hg
  have hc5 : c < 5 := by have := G.ln; omega
  have sz := (G.li c hc5).sz
  have h0 := G.st
  have rs := run_sz hr
  have erp : rgs (μ 1) c p = (i : Int) := by unfold rgs; rw [if_pos hp, Int.toNat_natCast, hs]
  unfold f_X13_ridesFrom
  rw [m_at G hc5 (by omega) (by omega), erp, Option.bind_some, m_isOpen (by omega), Option.bind_some]
  by_cases w : μ 1 (13 + 2 * i) = 0
  · rw [if_pos w, if_neg (by decide), if_pos (by omega), Int.toNat_natCast]
    by_cases q : μ 6 i = 1000000000
    · rw [if_pos q]
      exact ⟨μ, 0, rfl, RT.refl _ _ _, fun _ h => absurd q h⟩
    · rw [if_neg q]
      obtain ⟨m, hm'⟩ : ∃ m, m = μ 6 i := ⟨_, rfl⟩
      have hm2 := hm w q
      rw [← hm'] at hm2 q ⊢
      have ft := fstt_rng G hc (p := p) (by omega) (m := m) (by omega)
      have fw := fst_whn G hc (p := p) (by omega) (m := m) (by omega)
      obtain ⟨z, hz⟩ := Int.eq_ofNat_of_zero_le (show 0 ≤ gl (μ 1) c 5 - p by omega)
      obtain ⟨⟨s', fl⟩, ⟨p1, p2, p3⟩, e⟩ := lp_inv (fun n (v : Sm × Int) k => f_X13_ridesFrom_50 c (fstt (μ 1) c p m) n v.1 v.2 ((p : Int) + 1 + k)) id (fun k v => RT (μ 1) (rEg (μ 1) i) μ v.1 v.2 ∧ v.1 6 i = m ∧ ∀ l : Int, (p : Int) < l → l < (p : Int) + 1 + (k : Nat) → ∀ o : Nat, rgs (μ 1) c l = (o : Int) → opn (μ 1) o → v.1 5 o ≤ whn (μ 1) c (fstt (μ 1) c p m) l ∧ v.1 6 o ≤ whn (μ 1) c (fstt (μ 1) c p m) l + μ 1 (12 + 2 * o)) z (fun n v hP => by
          have e1 : v.1 1 = μ 1 := hP.1.fm 1 (by decide) (by decide)
          show f_X13_ridesFrom_50 c (fstt (μ 1) c p m) (n + 1) v.1 v.2 ((p : Int) + 1 + (z : Nat)) = _
          rw [f_X13_ridesFrom_50, m_l5 hc5, e1, Option.bind_some, if_pos (by omega)]; rfl) (fun n k v hk hP => by
          obtain ⟨p1, p2, p3⟩ := hP
          have e1 : v.1 1 = μ 1 := p1.fm 1 (by decide) (by decide)
          have GV : GI K (v.1 1) := by rw [e1]; exact G
          have rr := rgs_rng G hc5 (l := (p : Int) + 1 + k) (by omega) (by omega)
          obtain ⟨o, hro⟩ := Int.eq_ofNat_of_zero_le rr.1
          have hoS : (o : Int) < μ 1 0 := by omega
          have wl := whn_rng G hc5 (t := fstt (μ 1) c p m) (p := (p : Int) + 1 + k) ft (by omega)
          have wp := whn_pos G hc (t := fstt (μ 1) c p m) (p := p) (l := (p : Int) + 1 + k) (by omega)
          have tr := G.tr o (by omega)
          have hrg : rng ((p : Int) + 1 + k + 1) := by unfold rng; omega
          by_cases wo : μ 1 (13 + 2 * o) = 0
          · obtain ⟨s2, f2, r1, r2, r3, r4⟩ := RT.comes (g := μ 1) (μ := v.1) (E := rEg (μ 1) i) (o := o) (x := whn (μ 1) c (fstt (μ 1) c p m) ((p : Int) + 1 + k)) (y := whn (μ 1) c (fstt (μ 1) c p m) ((p : Int) + 1 + k) + μ 1 (12 + 2 * o)) (by omega) hoS ⟨hi, hoS, w, wo, by rw [p2]; omega, c, p, (p : Int) + 1 + k, hc, hr, hp, hs, by omega, by omega, hro, by rw [p2], rfl⟩
            refine ⟨(s2, ior v.2 f2), ⟨p1.or r2, ?_, fun l l1 l2 o' ho' hop => ?_⟩, ?_⟩
            · dsimp only
              rw [r4]
              by_cases e : i = o
              · subst e; rw [rxA_same, p2, if_neg (by omega)]
              · rw [rxA_ne _ _ e]; exact p2
            · dsimp only
              rw [r3, r4]
              by_cases e : l = (p : Int) + 1 + k
              · subst e
                have : o' = o := by omega
                subst this
                rw [rxA_same, rxA_same]
                constructor <;> split <;> omega
              · have h9 := p3 l l1 (by omega) o' ho' hop
                have h8 := rx_le (v.1 5) (v.1 6) o (whn (μ 1) c (fstt (μ 1) c p m) ((p : Int) + 1 + k)) (whn (μ 1) c (fstt (μ 1) c p m) ((p : Int) + 1 + k) + μ 1 (12 + 2 * o)) o'
                omega
            · show f_X13_ridesFrom_50 c (fstt (μ 1) c p m) (n + 1) v.1 v.2 ((p : Int) + 1 + (k : Nat)) = f_X13_ridesFrom_50 c (fstt (μ 1) c p m) n s2 (ior v.2 f2) ((p : Int) + 1 + ((k + 1 : Nat) : Int))
              rw [f_X13_ridesFrom_50, m_l5 hc5, e1, Option.bind_some, if_neg (by omega), m_at GV hc5 (by rw [e1]; omega) (by rw [e1]; omega), e1, Option.bind_some, m_minuteOf GV hc5 ft (by omega), e1, Option.bind_some, hro, m_isOpen (by omega), e1, Option.bind_some, if_pos wo, if_neg (by decide), m_transfer (by omega), e1, Option.bind_some, if_pos (show rng (whn (μ 1) c (fstt (μ 1) c p m) ((p : Int) + 1 + k) + μ 1 (12 + 2 * o)) by unfold rng; omega), r1, Option.bind_some, bl_eq, if_pos hrg, show (p : Int) + 1 + ((k + 1 : Nat) : Int) = (p : Int) + 1 + k + 1 by omega]
          · refine ⟨v, ⟨p1, p2, fun l l1 l2 o' ho' hop => ?_⟩, ?_⟩
            · by_cases e : l = (p : Int) + 1 + k
              · subst e
                have : o' = o := by omega
                subst this
                exact absurd hop wo
              · exact p3 l l1 (by omega) o' ho' hop
            · show f_X13_ridesFrom_50 c (fstt (μ 1) c p m) (n + 1) v.1 v.2 ((p : Int) + 1 + (k : Nat)) = f_X13_ridesFrom_50 c (fstt (μ 1) c p m) n v.1 v.2 ((p : Int) + 1 + ((k + 1 : Nat) : Int))
              rw [f_X13_ridesFrom_50, m_l5 hc5, e1, Option.bind_some, if_neg (by omega), m_at GV hc5 (by rw [e1]; omega) (by rw [e1]; omega), e1, Option.bind_some, m_minuteOf GV hc5 ft (by omega), e1, Option.bind_some, hro, m_isOpen (by omega), e1, Option.bind_some, if_neg wo, if_pos rfl, if_pos hrg, show (p : Int) + 1 + ((k + 1 : Nat) : Int) = (p : Int) + 1 + k + 1 by omega]) N 0 (μ, 0) (by omega) (by omega) ⟨RT.refl _ _ _, hm'.symm, fun l l1 l2 => by omega⟩
      rw [m_first G hc (by omega) (by omega), Option.bind_some, bl_eq, if_pos (by unfold rng; omega)]
      have e' : f_X13_ridesFrom_50 c (fstt (μ 1) c p m) N μ 0 ((p : Int) + 1) = some (s', fl) := by
        have : (p : Int) + 1 + ((0 : Nat) : Int) = (p : Int) + 1 := by omega
        dsimp only at e
        rw [this] at e; exact e
      rw [e', Option.bind_some]
      exact ⟨s', fl, rfl, p1, fun _ _ => ⟨p2, fun l l1 l2 => p3 l l1 (by omega)⟩⟩
  · rw [if_neg w, if_pos rfl]
    exact ⟨μ, 0, rfl, RT.refl _ _ _, fun h => absurd h w⟩
theorem m_walksFrom (G : GI K (μ 1)) (hg : μ 1 = g) (hN : 16 < N) {i : Nat} (hi : (i : Int) < g 0) (hm : μ 5 i ≠ 1000000000 → 0 ≤ μ 5 i ∧ μ 5 i ≤ 9710000) : ∃ s fl, f_X13_walksFrom N μ i = some (s, fl) ∧ RT g (wEg g i) μ s fl ∧ ∀ o x y, wEg g i (μ 5) (μ 6) o x y → s 5 o ≤ x ∧ s 6 o ≤ y := by
  subst hg
  have h0 := G.st
  unfold f_X13_walksFrom
  rw [m_isOpen (by omega), Option.bind_some]
  by_cases w : μ 1 (13 + 2 * i) = 0
  · rw [if_pos w, if_neg (by decide), if_pos (by omega), Int.toNat_natCast]
    by_cases q : μ 5 i = 1000000000
    · rw [if_pos q]
      exact ⟨μ, 0, rfl, RT.refl _ _ _, fun o x y h => by have := h.2.2.2.2.2.1; omega⟩
    · rw [if_neg q]
      have hm2 := hm q
      obtain ⟨z, hz⟩ := Int.eq_ofNat_of_zero_le h0.1
      obtain ⟨⟨s', fl⟩, ⟨p1, p2, p3⟩, e⟩ := lp_inv (fun n (v : Sm × Int) k => f_X13_walksFrom_25 i n v.1 v.2 k) id (fun k v => RT (μ 1) (wEg (μ 1) i) μ v.1 v.2 ∧ v.1 5 i = μ 5 i ∧ ∀ o, o < k → ∀ x y, wEg (μ 1) i (μ 5) (μ 6) o x y → v.1 5 o ≤ x ∧ v.1 6 o ≤ y) z (fun n v hP => by
          have e1 : v.1 1 = μ 1 := hP.1.fm 1 (by decide) (by decide)
          show f_X13_walksFrom_25 i (n + 1) v.1 v.2 (z : Int) = _
          rw [f_X13_walksFrom_25, e1, if_pos (by omega)]; rfl) (fun n k v hk hP => by
          obtain ⟨p1, p2, p3⟩ := hP
          have e1 : v.1 1 = μ 1 := p1.fm 1 (by decide) (by decide)
          have wr : 0 ≤ wlk (μ 1) i k ∧ wlk (μ 1) i k ≤ 30 := G.wl i k (by omega) (by omega)
          by_cases w1 : 0 < wlk (μ 1) i k
          · by_cases w2 : μ 1 (13 + 2 * k) = 0
            · obtain ⟨s2, f2, r1, r2, r3, r4⟩ := RT.comes (g := μ 1) (μ := v.1) (E := wEg (μ 1) i) (o := k) (x := μ 5 i + wlk (μ 1) i k) (y := μ 5 i + wlk (μ 1) i k) (by omega) (by omega) ⟨hi, by omega, w1, w, w2, by rw [p2]; omega, by rw [p2], rfl⟩
              refine ⟨(s2, ior v.2 f2), ⟨p1.or r2, ?_, fun o ho x y hx => ?_⟩, ?_⟩
              · dsimp only
                rw [r3]
                by_cases e : i = k
                · subst e; rw [rxA_same, p2, if_neg (by omega)]
                · rw [rxA_ne _ _ e]; exact p2
              · dsimp only
                rw [r3, r4]
                by_cases e : o = k
                · subst e
                  obtain ⟨-, -, -, -, -, -, rfl, rfl⟩ := hx
                  rw [rxA_same, rxA_same]
                  constructor <;> split <;> omega
                · rw [rxA_ne _ _ e, rxA_ne _ _ e]; exact p3 o (by omega) x y hx
              · show f_X13_walksFrom_25 i (n + 1) v.1 v.2 (k : Int) = f_X13_walksFrom_25 i n s2 (ior v.2 f2) ((k + 1 : Nat) : Int)
                rw [f_X13_walksFrom_25, e1, if_neg (by omega), m_walk (by omega) (by omega), e1, Option.bind_some, if_neg (by omega), m_isOpen (by omega), e1, Option.bind_some, if_pos w2, if_neg (by decide), if_pos (by omega), Option.bind_some, Option.bind_some, Int.toNat_natCast, p2, if_pos (show rng (μ 5 i + wlk (μ 1) i k) by unfold rng; omega), if_pos (show rng (μ 5 i + wlk (μ 1) i k) by unfold rng; omega), r1, Option.bind_some]; rfl
            · refine ⟨v, ⟨p1, p2, fun o ho x y hx => ?_⟩, ?_⟩
              · by_cases e : o = k
                · subst e; exact absurd hx.2.2.2.2.1 w2
                · exact p3 o (by omega) x y hx
              · show f_X13_walksFrom_25 i (n + 1) v.1 v.2 (k : Int) = f_X13_walksFrom_25 i n v.1 v.2 ((k + 1 : Nat) : Int)
                rw [f_X13_walksFrom_25, e1, if_neg (by omega), m_walk (by omega) (by omega), e1, Option.bind_some, if_neg (by omega), m_isOpen (by omega), e1, Option.bind_some, if_neg w2, if_pos rfl]; rfl
          · refine ⟨v, ⟨p1, p2, fun o ho x y hx => ?_⟩, ?_⟩
            · by_cases e : o = k
              · subst e; exact absurd hx.2.2.1 w1
              · exact p3 o (by omega) x y hx
            · show f_X13_walksFrom_25 i (n + 1) v.1 v.2 (k : Int) = f_X13_walksFrom_25 i n v.1 v.2 ((k + 1 : Nat) : Int)
              rw [f_X13_walksFrom_25, e1, if_neg (by omega), m_walk (by omega) (by omega), e1, Option.bind_some, if_pos (by omega)]; rfl) N 0 (μ, 0) (by omega) (by omega) ⟨RT.refl _ _ _, rfl, fun o ho => by omega⟩
      rw [show f_X13_walksFrom_25 i N μ 0 0 = some (s', fl) from e, Option.bind_some]
      exact ⟨s', fl, rfl, p1, fun o x y h => p3 o (by have := h.2.1; omega) x y h⟩
  · rw [if_neg w, if_pos rfl]
    exact ⟨μ, 0, rfl, RT.refl _ _ _, fun o x y h => absurd h.2.2.2.1 w⟩
end MR
