/-! agreement of class and model, part 9D -/
/-! boardings: walks are free, rides cost one -/
def wX (g : Ga) (i j : Nat) : Prop := (i : Int) < g 0 ∧ (j : Int) < g 0 ∧ 0 < wlk g i j ∧ opn g i ∧ opn g j
def hit (g : Ga) (i j c : Nat) : Prop := run g c = true ∧ ∃ p : Nat, ∃ l : Int, (p : Int) < gl g c 5 ∧ gl g c (7 + p) = (i : Int) ∧ (p : Int) < l ∧ l ≤ gl g c 5 ∧ rgs g c l = (j : Int)
def rX (g : Ga) (i j : Nat) : Prop := (i : Int) < g 0 ∧ (j : Int) < g 0 ∧ opn g i ∧ opn g j ∧ ∃ c : Nat, (c : Int) < g 2 ∧ hit g i j c
def bcl (g C : Ga) : Prop := (∀ i j, wX g i j → C j ≤ C i) ∧ ∀ i j, rX g i j → C i < 1000000000 → C j ≤ C i + 1
def BV (g : Ga) (f : Nat) (L : Ga) : Prop := (∀ i : Nat, (i : Int) < g 0 → 0 ≤ L i ∧ L i ≤ 1000000000) ∧ (bcl g L) ∧ (∀ C : Ga, bcl g C → (∀ i : Nat, (i : Int) < g 0 → 0 ≤ C i ∧ C i ≤ 1000000000) → C f ≤ 0 → ∀ i : Nat, (i : Int) < g 0 → C i ≤ L i) ∧ (L f ≤ 0)
theorem BV.rg {g : Ga} {f : Nat} {L : Ga} (h : BV g f L) : ∀ i : Nat, (i : Int) < g 0 → 0 ≤ L i ∧ L i ≤ 1000000000 := h.1
theorem BV.cl {g : Ga} {f : Nat} {L : Ga} (h : BV g f L) : bcl g L := h.2.1
theorem BV.dm {g : Ga} {f : Nat} {L : Ga} (h : BV g f L) : ∀ C : Ga, bcl g C → (∀ i : Nat, (i : Int) < g 0 → 0 ≤ C i ∧ C i ≤ 1000000000) → C f ≤ 0 → ∀ i : Nat, (i : Int) < g 0 → C i ≤ L i := h.2.2.1
theorem BV.ff {g : Ga} {f : Nat} {L : Ga} (h : BV g f L) : L f ≤ 0 := h.2.2.2
theorem BV.mk {g : Ga} {f : Nat} {L : Ga} (rg9 : ∀ i : Nat, (i : Int) < g 0 → 0 ≤ L i ∧ L i ≤ 1000000000) (cl9 : bcl g L) (dm9 : ∀ C : Ga, bcl g C → (∀ i : Nat, (i : Int) < g 0 → 0 ≤ C i ∧ C i ≤ 1000000000) → C f ≤ 0 → ∀ i : Nat, (i : Int) < g 0 → C i ≤ L i) (ff9 : L f ≤ 0) : BV g f L := ⟨rg9, cl9, dm9, ff9⟩
section BQ
variable {σ s μ : Sm} {g L L' C : Ga} {K : Int} {N f t i j : Nat}
theorem BV.uniq (h : BV g f L) (h' : BV g f L') {i : Nat} (hi : (i : Int) < g 0) : L i = L' i := by
  have h1 := h.dm L' h'.cl h'.rg h'.ff i hi
  have h2 := h'.dm L h.cl h.rg h.ff i hi
  omega
theorem BV.shutF (h : BV g f L) (ht : (t : Int) < g 0) (hft : t ≠ f) (ho : ¬ opn g f) : L t = 1000000000 := by
  have h1 := h.dm (fun i => if i = f then 0 else 1000000000) ⟨fun i j hw => by
    have h1 : i ≠ f := fun e => by subst e; exact ho hw.2.2.2.1
    show (if j = f then (0 : Int) else 1000000000) ≤ if i = f then 0 else 1000000000
    rw [if_neg h1]; split <;> omega, fun i j hw hl => by
    have h1 : i ≠ f := fun e => by subst e; exact ho hw.2.2.1
    show (if j = f then (0 : Int) else 1000000000) ≤ (if i = f then 0 else 1000000000) + 1
    rw [if_neg h1]; split <;> omega⟩ (fun i _ => by
    show 0 ≤ (if i = f then (0 : Int) else 1000000000) ∧ (if i = f then (0 : Int) else 1000000000) ≤ 1000000000
    split <;> omega) (by show (if f = f then (0 : Int) else 1000000000) ≤ 0; rw [if_pos rfl]; omega) t ht
  have h2 := h.rg t ht
  have h3 : (if t = f then (0 : Int) else 1000000000) ≤ L t := h1
  rw [if_neg hft] at h3
  omega
theorem BV.shutT (h : BV g f L) (ht : (t : Int) < g 0) (hft : t ≠ f) (ho : ¬ opn g t) : L t = 1000000000 := by
  have h1 := h.dm (fun i => if i = t then 1000000000 else 0) ⟨fun i j hw => by
    have h1 : j ≠ t := fun e => by subst e; exact ho hw.2.2.2.2
    show (if j = t then (1000000000 : Int) else 0) ≤ if i = t then 1000000000 else 0
    rw [if_neg h1]; split <;> omega, fun i j hw hl => by
    have h1 : j ≠ t := fun e => by subst e; exact ho hw.2.2.2.1
    show (if j = t then (1000000000 : Int) else 0) ≤ (if i = t then 1000000000 else 0) + 1
    rw [if_neg h1]; split <;> omega⟩ (fun i _ => by
    show 0 ≤ (if i = t then (1000000000 : Int) else 0) ∧ (if i = t then (1000000000 : Int) else 0) ≤ 1000000000
    split <;> omega) (by show (if f = t then (1000000000 : Int) else 0) ≤ 0; rw [if_neg (fun e => hft e.symm)]; omega) t ht
  have h2 := h.rg t ht
  have h3 : (if t = t then (1000000000 : Int) else 0) ≤ L t := h1
  rw [if_pos rfl] at h3
  omega
theorem hit_pla (G : GI K g) {c : Nat} (hc : c < 5) : hit g i j c ↔ run g c = true ∧ pla g c i ≠ -1 ∧ pla g c j ≠ -1 ∧ (pla g c j = 0 ∨ pla g c i < pla g c j) := by
  constructor
  · rintro ⟨h1, p, l, hp, hs, hl, hl2, hj⟩
    have rs := run_sz h1
    have e1 := pla_un G hc hp hs
    refine ⟨h1, by omega, ?_⟩
    unfold rgs at hj
    by_cases q : l < gl g c 5
    · rw [if_pos q] at hj
      have e2 := pla_un G hc (p := l.toNat) (by omega) hj
      omega
    · rw [if_neg q] at hj
      have e2 := pla_un G hc (p := 0) (by omega) hj
      omega
  · rintro ⟨h1, h2, h3, h4⟩
    have rs := run_sz h1
    have r1 := pla_rng g c i
    have r2 := pla_rng g c j
    obtain ⟨p, hp⟩ := Int.eq_ofNat_of_zero_le (show 0 ≤ pla g c i by omega)
    obtain ⟨q, hq⟩ := Int.eq_ofNat_of_zero_le (show 0 ≤ pla g c j by omega)
    obtain ⟨a1, a2⟩ := pla_at G hc hp
    obtain ⟨b1, b2⟩ := pla_at G hc hq
    by_cases e : q = 0
    · subst e
      refine ⟨h1, p, gl g c 5, a1, a2, a1, Int.le_refl _, ?_⟩
      unfold rgs; rw [if_neg (by omega)]; exact b2
    · refine ⟨h1, p, q, a1, a2, by omega, by omega, ?_⟩
      unfold rgs; rw [if_pos b1, Int.toNat_natCast]; exact b2
theorem c_canRide (n : NR 1 σ g) (G : GI K g) (hN : 16 < N) (hi : (i : Int) < g 0) (hj : (j : Int) < g 0) : ∃ v, f_X2_canRide N σ 1 i j = some v ∧ ((v = 1 ∧ rX g i j) ∨ (v = 0 ∧ ¬ rX g i j)) := by
  have h0 := G.st
  have hl := G.ln
  have e1 : σ (1 + 2) (i : Int).toNat = g (13 + 2 * i) := n.cl i hi
  have e2 : σ (1 + 2) (j : Int).toNat = g (13 + 2 * j) := n.cl j hj
  unfold f_X2_canRide
  rw [if_pos (by omega), e1]
  by_cases o1 : g (13 + 2 * i) = 0
  · rw [if_pos o1, if_pos (by omega), e2]
    by_cases o2 : g (13 + 2 * j) = 0
    · rw [if_pos o2]
      have key : ∀ (n' k : Nat), (k : Int) ≤ g 2 → (g 2).toNat - k < n' → (∀ c, c < k → ¬ hit g i j c) → (f_X2_canRide_22 N σ 1 i j n' k = some (.inl 1) ∧ ∃ c : Nat, (c : Int) < g 2 ∧ hit g i j c) ∨ (f_X2_canRide_22 N σ 1 i j n' k = some (.inr ()) ∧ ∀ c : Nat, (c : Int) < g 2 → ¬ hit g i j c) := by
        intro n'
        induction n' with
        | zero => intro k _ h; omega
        | succ n' ih =>
          intro k hk hn hno
          rw [f_X2_canRide_22, n.ln]
          by_cases e : g 2 ≤ (k : Int)
          · rw [if_pos e]
            exact Or.inr ⟨rfl, fun c hc => hno c (by omega)⟩
          · have hkc : (k : Int) < g 2 := by omega
            rw [if_neg e, if_pos (by omega), Int.toNat_natCast, c_placeOf n G hkc _ (by omega), Option.bind_some, c_placeOf n G hkc _ (by omega), Option.bind_some, c_isRunning n hkc, Option.bind_some]
            have hp := hit_pla (i := i) (j := j) G (c := k) (by omega)
            have cont : ¬ hit g i j k → (f_X2_canRide_22 N σ 1 i j n' (k + 1 : Nat) = some (.inl 1) ∧ ∃ c : Nat, (c : Int) < g 2 ∧ hit g i j c) ∨ (f_X2_canRide_22 N σ 1 i j n' (k + 1 : Nat) = some (.inr ()) ∧ ∀ c : Nat, (c : Int) < g 2 → ¬ hit g i j c) := fun hh => ih (k + 1) (by omega) (by omega) (fun c hc => by
              by_cases e : c = k
              · subst e; exact hh
              · exact hno c (by omega))
            by_cases r1 : run g k = true
            · rw [if_pos r1, if_neg (by decide)]
              by_cases r2 : pla g k i = -1
              · rw [if_pos r2]; exact cont (fun h => (hp.mp h).2.1 r2)
              · rw [if_neg r2]
                by_cases r3 : pla g k j = -1
                · rw [if_pos r3]; exact cont (fun h => (hp.mp h).2.2.1 r3)
                · rw [if_neg r3]
                  by_cases r4 : pla g k j = 0
                  · rw [if_pos r4]; exact Or.inl ⟨rfl, k, hkc, hp.mpr ⟨r1, r2, r3, Or.inl r4⟩⟩
                  · rw [if_neg r4]
                    by_cases r5 : pla g k j ≤ pla g k i
                    · rw [if_pos r5]; exact cont (fun h => by have := (hp.mp h).2.2.2; omega)
                    · rw [if_neg r5]; exact Or.inl ⟨rfl, k, hkc, hp.mpr ⟨r1, r2, r3, Or.inr (by omega)⟩⟩
            · rw [if_neg r1, if_pos rfl]; exact cont (fun h => r1 h.1)
      rcases key N 0 (by omega) (by omega) (fun c hc => by omega) with ⟨h1, h2⟩ | ⟨h1, h2⟩
      · rw [show f_X2_canRide_22 N σ 1 i j N 0 = _ from h1]
        exact ⟨1, rfl, Or.inl ⟨rfl, hi, hj, o1, o2, h2⟩⟩
      · rw [show f_X2_canRide_22 N σ 1 i j N 0 = _ from h1]
        exact ⟨0, rfl, Or.inr ⟨rfl, fun ⟨_, _, _, _, c, hc, h⟩ => h2 c hc h⟩⟩
    · rw [if_neg o2]; exact ⟨0, rfl, Or.inr ⟨rfl, fun h => o2 h.2.2.2.1⟩⟩
  · rw [if_neg o1]; exact ⟨0, rfl, Or.inr ⟨rfl, fun h => o1 h.2.2.1⟩⟩
theorem c_canW (n : NR 1 σ g) (G : GI K g) (hi : (i : Int) < g 0) (hj : (j : Int) < g 0) : ∃ v, f_X8_canWalk σ 1 i j = some v ∧ ((v = 1 ∧ wX g i j) ∨ (v = 0 ∧ ¬ wX g i j)) := by
  rw [c_canWalk n G hi hj]
  by_cases q : 0 < wlk g i j ∧ g (13 + 2 * i) = 0 ∧ g (13 + 2 * j) = 0
  · rw [if_pos q]; exact ⟨1, rfl, Or.inl ⟨rfl, hi, hj, q.1, q.2.1, q.2.2⟩⟩
  · rw [if_neg q]; exact ⟨0, rfl, Or.inr ⟨rfl, fun h => q ⟨h.2.2.1, h.2.2.2.1, h.2.2.2.2⟩⟩⟩
end BQ
/-! the class's least boardings -/
def FB (σ s : Sm) : Prop := ∀ r, r ≠ 377 → s r = σ r
/-- minutes are found only along walks and rides -/
def dmn (g : Ga) (f : Nat) (L : Ga) : Prop := ∀ C : Ga, bcl g C → (∀ i : Nat, (i : Int) < g 0 → 0 ≤ C i ∧ C i ≤ 1000000000) → C f ≤ 0 → ∀ i : Nat, (i : Int) < g 0 → C i ≤ L i
def lvl (g L : Ga) (r : Int) : Int := ctk (fun i => L i = r) (g 0).toNat
def bel (g L : Ga) (r : Int) : Int := ctk (fun i => L i < r) (g 0).toNat
/-- before the round of rides r -/
def BR (g : Ga) (f : Nat) (r : Nat) (L : Ga) : Prop := (∀ i : Nat, (i : Int) < g 0 → (0 ≤ L i ∧ L i ≤ r) ∨ L i = 1000000000) ∧ (dmn g f L) ∧ (L f = 0) ∧ (∀ i j, wX g i j → L i < r → L j ≤ L i) ∧ (∀ i j, rX g i j → L i < r → L j ≤ L i + 1) ∧ (lvl g L r = 0 ∨ (r : Int) ≤ bel g L r)
theorem BR.rg {g : Ga} {f : Nat} {r : Nat} {L : Ga} (h : BR g f r L) : ∀ i : Nat, (i : Int) < g 0 → (0 ≤ L i ∧ L i ≤ r) ∨ L i = 1000000000 := h.1
theorem BR.dm {g : Ga} {f : Nat} {r : Nat} {L : Ga} (h : BR g f r L) : dmn g f L := h.2.1
theorem BR.ff {g : Ga} {f : Nat} {r : Nat} {L : Ga} (h : BR g f r L) : L f = 0 := h.2.2.1
theorem BR.w {g : Ga} {f : Nat} {r : Nat} {L : Ga} (h : BR g f r L) : ∀ i j, wX g i j → L i < r → L j ≤ L i := h.2.2.2.1
theorem BR.r {g : Ga} {f : Nat} {r : Nat} {L : Ga} (h : BR g f r L) : ∀ i j, rX g i j → L i < r → L j ≤ L i + 1 := h.2.2.2.2.1
theorem BR.n {g : Ga} {f : Nat} {r : Nat} {L : Ga} (h : BR g f r L) : lvl g L r = 0 ∨ (r : Int) ≤ bel g L r := h.2.2.2.2.2
theorem BR.mk {g : Ga} {f : Nat} {r : Nat} {L : Ga} (rg9 : ∀ i : Nat, (i : Int) < g 0 → (0 ≤ L i ∧ L i ≤ r) ∨ L i = 1000000000) (dm9 : dmn g f L) (ff9 : L f = 0) (w9 : ∀ i j, wX g i j → L i < r → L j ≤ L i) (r9 : ∀ i j, rX g i j → L i < r → L j ≤ L i + 1) (n9 : lvl g L r = 0 ∨ (r : Int) ≤ bel g L r) : BR g f r L := ⟨rg9, dm9, ff9, w9, r9, n9⟩
section BC
variable {σ s : Sm} {g L L' : Ga} {K : Int} {N f r : Nat}
theorem FB.refl (σ : Sm) : FB σ σ := fun _ _ => rfl
theorem FB.trans {υ : Sm} (h : FB σ s) (h2 : FB s υ) : FB σ υ := fun r h3 => (h2 r h3).trans (h r h3)
theorem FB.nr (h : FB σ s) (n : NR 1 σ g) (G : GI K g) (R : RW 1 σ) : NR 1 s g := n.same R G.tk.2 G.ln.2 (fun r h1 h2 => h r (by omega))
theorem FB.rw (h : FB σ s) (R : RW 1 σ) : RW 1 s := R.same (h 7 (by omega))
/-- L' comes from L by walks from stops of level r to unreached ones -/
def WS (g : Ga) (q : Int) (r : Int) (f : Nat) (L : Ga) (L' : Ga) : Prop := (∀ i : Nat, (i : Int) < g 0 → L' i = L i ∨ (r < L i ∧ L' i = r)) ∧ (dmn g f L → dmn g f L') ∧ (lvl g L q = 0 → ∀ i : Nat, (i : Int) < g 0 → L' i = L i)
theorem WS.ch {g : Ga} {q : Int} {r : Int} {f : Nat} {L : Ga} {L' : Ga} (h : WS g q r f L L') : ∀ i : Nat, (i : Int) < g 0 → L' i = L i ∨ (r < L i ∧ L' i = r) := h.1
theorem WS.dm {g : Ga} {q : Int} {r : Int} {f : Nat} {L : Ga} {L' : Ga} (h : WS g q r f L L') : dmn g f L → dmn g f L' := h.2.1
theorem WS.em {g : Ga} {q : Int} {r : Int} {f : Nat} {L : Ga} {L' : Ga} (h : WS g q r f L L') : lvl g L q = 0 → ∀ i : Nat, (i : Int) < g 0 → L' i = L i := h.2.2
theorem WS.mk {g : Ga} {q : Int} {r : Int} {f : Nat} {L : Ga} {L' : Ga} (ch9 : ∀ i : Nat, (i : Int) < g 0 → L' i = L i ∨ (r < L i ∧ L' i = r)) (dm9 : dmn g f L → dmn g f L') (em9 : lvl g L q = 0 → ∀ i : Nat, (i : Int) < g 0 → L' i = L i) : WS g q r f L L' := ⟨ch9, dm9, em9⟩
theorem WS.refl (g : Ga) (q r : Int) (f : Nat) (L : Ga) : WS g q r f L L := WS.mk (fun _ _ => Or.inl rfl) id (fun _ _ _ => rfl)
theorem ctk_ex {p : Nat → Bool} : ∀ n : Nat, ctk p n ≠ 0 → ∃ k, k < n ∧ p k = true := by
  intro n
  induction n with
  | zero => intro h; exact absurd rfl h
  | succ n ih =>
    intro h
    by_cases q : p n = true
    · exact ⟨n, by omega, q⟩
    · unfold ctk at h
      rw [if_neg q] at h
      obtain ⟨k, h1, h2⟩ := ih (by omega)
      exact ⟨k, by omega, h2⟩
theorem ctk_one {p : Nat → Bool} {k : Nat} (n : Nat) (hk : k < n) (h : p k = true) : 1 ≤ ctk p n := by
  have h1 := ctk_lt (p := fun _ => false) (q := p) (j := k) n (fun _ _ h => by cases h) hk rfl h
  have h2 := ctk_rng (fun _ => false) n
  omega
theorem WS.trans {q r : Int} {L2 : Ga} (h : WS g q r f L L') (h2 : WS g q r f L' L2) : WS g q r f L L2 := WS.mk (fun i hi => by
  have h1 := h.ch i hi
  have h3 := h2.ch i hi
  omega) (fun d => h2.dm (h.dm d)) (fun e i hi => by
  have h1 := h.em e
  have h3 : lvl g L' q = 0 := by
    rw [← e]
    exact ctk_congr (fun k hk => by rw [h1 k (by omega)])
  rw [h2.em h3 i hi, h1 i hi])
theorem WS.lv {r : Int} (h : WS g r r f L L') : lvl g L r ≤ lvl g L' r := ctk_le _ (fun k hk hp => by
  simp only [decide_eq_true_eq] at hp ⊢
  have := h.ch k (by omega)
  omega)
theorem dmn_w {i j : Nat} (h : dmn g f L) (hw : wX g i j) : dmn g f (upf L j (L i)) := fun C h1 h2 h3 k hk => by
  have := h C h1 h2 h3 k hk
  by_cases e : k = j
  · subst e
    rw [upf_eq]
    have := h1.1 i k hw
    have := h C h1 h2 h3 i hw.1
    omega
  · rw [upf_ne e]; exact this
theorem dmn_r {i j : Nat} (h : dmn g f L) (hw : rX g i j) (hL : L i < 1000000000) : dmn g f (upf L j (L i + 1)) := fun C h1 h2 h3 k hk => by
  have h4 := h C h1 h2 h3 k hk
  by_cases e : k = j
  · subst e
    rw [upf_eq]
    have h5 := h C h1 h2 h3 i hw.1
    have := h1.2 i k hw (by omega)
    omega
  · rw [upf_ne e]; exact h4
theorem c_w33 (n : NR 1 σ g) (G : GI K g) (R : RW 1 σ) (hN : 16 < N) (x2 x4 : Int) {i : Nat} (hi : (i : Int) < g 0) (fl0 : Int) : ∃ v : Sm × Int, f_X2_walkAll_33 376 1 x2 x4 i N σ fl0 0 = some v ∧ FB σ v.1 ∧ WS g x2 x2 f (σ 377) (v.1 377) ∧ (σ 377 i = x2 → ∀ j, wX g i j → v.1 377 j ≤ x2) ∧ ((v.2 = fl0 ∧ v.1 = σ) ∨ (v.2 = 1 ∧ lvl g (σ 377) x2 + 1 ≤ lvl g (v.1 377) x2)) := by
  have h0 := G.st
  obtain ⟨m, rfl⟩ : ∃ k, N = k + 1 := ⟨N - 1, by omega⟩
  by_cases q : σ 377 i = x2
  · obtain ⟨z, hz⟩ := Int.eq_ofNat_of_zero_le h0.1
    obtain ⟨v, ⟨p1, p2, p3, p4, p5⟩, e⟩ := lp_inv (fun n (v : Sm × Int) k => f_X2_walkAll_33 376 1 x2 x4 i n v.1 v.2 k) id (fun k v => FB σ v.1 ∧ WS g x2 x2 f (σ 377) (v.1 377) ∧ (∀ j, j < k → wX g i j → v.1 377 j ≤ x2) ∧ v.1 377 i = x2 ∧ ((v.2 = fl0 ∧ v.1 = σ) ∨ (v.2 = 1 ∧ lvl g (σ 377) x2 + 1 ≤ lvl g (v.1 377) x2))) z (fun n' v hP => by
        have n' := hP.1.nr n G R
        show f_X2_walkAll_33 376 1 x2 x4 i _ v.1 v.2 (z : Int) = _
        rw [f_X2_walkAll_33, n'.st, if_pos (by omega)]; rfl) (fun n' k v hk hP => by
        obtain ⟨p1, p2, p3, p4, p5⟩ := hP
        have nn := p1.nr n G R
        have hks : (k : Int) < g 0 := by omega
        obtain ⟨w, w1, w2⟩ := c_canW nn G hi hks
        have head : f_X2_walkAll_33 376 1 x2 x4 i (n' + 1) v.1 v.2 (k : Int) = (if w = 0 then f_X2_walkAll_33 376 1 x2 x4 i n' v.1 v.2 ((k : Int) + 1) else (if v.1 377 k ≤ x2 then f_X2_walkAll_33 376 1 x2 x4 i n' v.1 v.2 ((k : Int) + 1) else f_X2_walkAll_33 376 1 x2 x4 i n' (upm v.1 377 k x2) 1 ((k : Int) + 1))) := by
          rw [f_X2_walkAll_33, nn.st, if_neg (by omega), if_pos (by omega), Int.toNat_natCast, if_pos (show v.1 (376 + 1) i = x2 from p4), w1, Option.bind_some, Int.toNat_natCast, bl_eq]
          by_cases e : w = 0
          · rw [if_pos e, if_pos e]
          · rw [if_neg e, if_neg e, if_pos (by omega)]
        rcases w2 with ⟨rfl, w2⟩ | ⟨rfl, w2⟩
        · by_cases e : v.1 377 k ≤ x2
          · refine ⟨v, ⟨p1, p2, fun j hj hw => ?_, p4, p5⟩, ?_⟩
            · by_cases e2 : j = k
              · subst e2; exact e
              · exact p3 j (by omega) hw
            · show f_X2_walkAll_33 376 1 x2 x4 i (n' + 1) v.1 v.2 (k : Int) = f_X2_walkAll_33 376 1 x2 x4 i n' v.1 v.2 ((k + 1 : Nat) : Int)
              rw [head, if_neg (by decide), if_pos e]; rfl
          · have hne : i ≠ k := fun e2 => by subst e2; omega
            have e377 : upm v.1 377 k x2 377 = upf (v.1 377) k (v.1 377 i) := by rw [upm_upf, p4]
            have ws : WS g x2 x2 f (v.1 377) (upm v.1 377 k x2 377) := WS.mk (fun j hj => by
              by_cases e2 : j = k
              · subst e2; right; rw [upm_same]; omega
              · left; rw [upm_cell e2]) (fun d => by rw [e377]; exact dmn_w d w2) (fun h => by
              have := ctk_one (p := fun i => decide (v.1 377 i = x2)) (k := i) (g 0).toNat (by omega) (by simp [p4])
              unfold lvl at h
              omega)
            have up : lvl g (v.1 377) x2 + 1 ≤ lvl g (upm v.1 377 k x2 377) x2 := ctk_lt (j := k) _ (fun j hj hp => by
              simp only [decide_eq_true_eq] at hp ⊢
              by_cases e2 : j = k
              · subst e2; omega
              · rw [upm_cell e2]; exact hp) (by omega) (by simp; omega) (by simp [upm_same])
            have up0 := p2.lv
            refine ⟨(upm v.1 377 k x2, 1), ⟨p1.trans (fun r h => upm_role h), p2.trans ws, fun j hj hw => ?_, ?_, Or.inr ⟨rfl, by dsimp only; omega⟩⟩, ?_⟩
            · dsimp only
              by_cases e2 : j = k
              · subst e2; rw [upm_same]; omega
              · rw [upm_cell e2]; exact p3 j (by omega) hw
            · dsimp only; rw [upm_cell hne]; exact p4
            · show f_X2_walkAll_33 376 1 x2 x4 i (n' + 1) v.1 v.2 (k : Int) = f_X2_walkAll_33 376 1 x2 x4 i n' (upm v.1 377 k x2) 1 ((k + 1 : Nat) : Int)
              rw [head, if_neg (by decide), if_neg e]; rfl
        · refine ⟨v, ⟨p1, p2, fun j hj hw => ?_, p4, p5⟩, ?_⟩
          · by_cases e2 : j = k
            · subst e2; exact absurd hw w2
            · exact p3 j (by omega) hw
          · show f_X2_walkAll_33 376 1 x2 x4 i (n' + 1) v.1 v.2 (k : Int) = f_X2_walkAll_33 376 1 x2 x4 i n' v.1 v.2 ((k + 1 : Nat) : Int)
            rw [head, if_pos rfl]; rfl) (m + 1) 0 (σ, fl0) (by omega) (by omega) ⟨FB.refl _, WS.refl _ _ _ _ _, fun j hj => by omega, q, Or.inl ⟨rfl, rfl⟩⟩
    exact ⟨v, e, p1, p2, fun _ j hw => p3 j (by have := hw.2.1; omega) hw, p5⟩
  · refine ⟨(σ, fl0), ?_, FB.refl _, WS.refl _ _ _ _ _, fun h => absurd h q, Or.inl ⟨rfl, rfl⟩⟩
    rw [f_X2_walkAll_33]
    by_cases e : σ 1 2 ≤ 0
    · rw [if_pos e]
    · rw [if_neg e, if_pos (by omega), Int.toNat_natCast, if_neg (show ¬ σ (376 + 1) i = x2 from q)]
theorem c_w21 (n : NR 1 σ g) (G : GI K g) (R : RW 1 σ) (hN : 16 < N) (x2 x4 : Int) : ∃ v : Sm × Int, f_X2_walkAll_21 N 376 1 x2 x4 N σ 0 0 = some v ∧ FB σ v.1 ∧ WS g x2 x2 f (σ 377) (v.1 377) ∧ ((v.2 = 0 ∧ v.1 = σ ∧ ∀ i j, wX g i j → σ 377 i = x2 → σ 377 j ≤ x2) ∨ (v.2 = 1 ∧ lvl g (σ 377) x2 + 1 ≤ lvl g (v.1 377) x2)) := by
  have h0 := G.st
  obtain ⟨z, hz⟩ := Int.eq_ofNat_of_zero_le h0.1
  obtain ⟨v, ⟨p1, p2, p3⟩, e⟩ := lp_inv (fun n (v : Sm × Int) k => f_X2_walkAll_21 N 376 1 x2 x4 n v.1 v.2 k) id (fun k v => FB σ v.1 ∧ WS g x2 x2 f (σ 377) (v.1 377) ∧ ((v.2 = 0 ∧ v.1 = σ ∧ ∀ i j, i < k → wX g i j → σ 377 i = x2 → σ 377 j ≤ x2) ∨ (v.2 = 1 ∧ lvl g (σ 377) x2 + 1 ≤ lvl g (v.1 377) x2))) z (fun n' v hP => by
      have nn := hP.1.nr n G R
      show f_X2_walkAll_21 N 376 1 x2 x4 _ v.1 v.2 (z : Int) = _
      rw [f_X2_walkAll_21, nn.st, if_pos (by omega)]; rfl) (fun n' k v hk hP => by
      obtain ⟨p1, p2, p3⟩ := hP
      have nn := p1.nr n G R
      obtain ⟨w, q1, q2, q3, q4, q5⟩ := c_w33 (f := f) nn G (p1.rw R) hN x2 x4 (i := k) (by omega) v.2
      refine ⟨w, ⟨p1.trans q2, p2.trans q3, ?_⟩, ?_⟩
      · have l1 := p2.lv
        have l2 := q3.lv
        rcases q5 with ⟨a1, a2⟩ | ⟨a1, a2⟩
        · rw [a2] at q4
          rcases p3 with ⟨b1, b2, b3⟩ | ⟨b1, b2⟩
          · left
            refine ⟨by rw [a1, b1], by rw [a2, b2], fun i j hi hw hL => ?_⟩
            by_cases e : i = k
            · subst e; rw [b2] at q4; exact q4 hL j hw
            · exact b3 i j (by omega) hw hL
          · right
            refine ⟨by rw [a1, b1], ?_⟩
            rw [a2]; omega
        · right
          exact ⟨a1, by omega⟩
      · show f_X2_walkAll_21 N 376 1 x2 x4 (n' + 1) v.1 v.2 (k : Int) = f_X2_walkAll_21 N 376 1 x2 x4 n' w.1 w.2 ((k + 1 : Nat) : Int)
        rw [f_X2_walkAll_21, nn.st, if_neg (by omega), q1, Option.bind_some]; rfl) N 0 (σ, 0) (by omega) (by omega) ⟨FB.refl _, WS.refl _ _ _ _ _, Or.inl ⟨rfl, rfl, fun i j hi => by omega⟩⟩
  refine ⟨v, e, p1, p2, ?_⟩
  rcases p3 with ⟨b1, b2, b3⟩ | h
  · exact Or.inl ⟨b1, b2, fun i j hw => b3 i j (by have := hw.1; omega) hw⟩
  · exact Or.inr h
theorem c_w5 (G : GI K g) (hN : 16 < N) (x2 : Int) : ∀ (n k : Nat) (s : Sm) (x3 : Int), k ≤ 11 → 11 - k < n → NR 1 s g → RW 1 s → (x3 ≠ 0 → (k : Int) ≤ lvl g (s 377) x2) → (x3 = 0 → ∀ i j, wX g i j → s 377 i = x2 → s 377 j ≤ x2) → ∃ s', f_X2_walkAll_5 N 376 1 x2 n s x3 k = some s' ∧ FB s s' ∧ WS g x2 x2 f (s 377) (s' 377) ∧ ∀ i j, wX g i j → s' 377 i = x2 → s' 377 j ≤ x2 := by
  have h0 := G.st
  intro n
  induction n with
  | zero => intro k s x3 _ h; omega
  | succ n ih =>
    intro k s x3 hk hn nr R h1 h2
    rw [f_X2_walkAll_5]
    have lb := ctk_rng (fun i => decide (s 377 i = x2)) (g 0).toNat
    by_cases e2 : x3 = 0
    · refine ⟨s, ?_, FB.refl _, WS.refl _ _ _ _ _, h2 e2⟩
      by_cases e : 10 < (k : Int)
      · rw [if_pos e]
      · rw [if_neg e, if_pos e2]
    · have h3 := h1 e2
      unfold lvl at h3
      rw [if_neg (by omega), if_neg e2]
      obtain ⟨v, q1, q2, q3, q4⟩ := c_w21 (N := N) (f := f) nr G R hN x2 (k : Int)
      rw [q1, Option.bind_some]
      obtain ⟨s', r1, r2, r3, r4⟩ := ih (k + 1) v.1 v.2 (by omega) (by omega) (q2.nr nr G R) (q2.rw R) (fun h => by
        rcases q4 with ⟨a1, -⟩ | ⟨-, a2⟩
        · exact absurd a1 h
        · have h4 := h1 e2
          omega) (fun h => by
        rcases q4 with ⟨a1, a2, a3⟩ | ⟨a1, -⟩
        · rw [a2]; exact a3
        · rw [a1] at h; cases h)
      exact ⟨s', r1, q2.trans r2, q3.trans r3, r4⟩
theorem c_walkAll (n : NR 1 σ g) (G : GI K g) (R : RW 1 σ) (hN : 30 < N) (x2 : Int) : ∃ s, f_X2_walkAll N σ 376 1 x2 = some s ∧ FB σ s ∧ WS g x2 x2 f (σ 377) (s 377) ∧ ∀ i j, wX g i j → s 377 i = x2 → s 377 j ≤ x2 := by
  obtain ⟨s, q1, q2⟩ := c_w5 (N := N) (f := f) G (by omega) x2 N 0 σ 1 (by omega) (by omega) n R (fun _ => (ctk_rng _ _).1) (fun h => by cases h)
  refine ⟨s, ?_, q2⟩
  unfold f_X2_walkAll
  rw [show f_X2_walkAll_5 N 376 1 x2 N σ 1 0 = some s from q1]; rfl
end BC
