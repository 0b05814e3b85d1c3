/-! agreement of class and model, part 70 -/
/-! what class and model have in common: the model's array g -/
theorem lp_up {α β : Type} (F : Nat → α → Int → Option β) (fin : α → β) (S : Nat → α) (B : Nat) (h0 : ∀ n, F (n + 1) (S B) (B : Int) = some (fin (S B))) (h1 : ∀ n k, k < B → F (n + 1) (S k) (k : Int) = F n (S (k + 1)) ((k + 1 : Nat) : Int)) : ∀ n k, k ≤ B → B - k < n → F n (S k) (k : Int) = some (fin (S B)) := by
  intro n
  induction n with
  | zero => intro k _ h; omega
  | succ n ih =>
    intro k hk hn
    by_cases e : k = B
    · subst e; exact h0 n
    · rw [h1 n k (by omega)]; exact ih (k + 1) (by omega) (by omega)
/-- how many k < n have p -/
def ctk (p : Nat → Bool) : Nat → Int
  | 0 => 0
  | n + 1 => ctk p n + (if p n then 1 else 0)
theorem ctk_rng (p : Nat → Bool) (n : Nat) : 0 ≤ ctk p n ∧ ctk p n ≤ n := by
  induction n with
  | zero => exact ⟨Int.le_refl _, Int.le_refl _⟩
  | succ n ih => unfold ctk; split <;> omega
theorem ctk_congr {p q : Nat → Bool} {n : Nat} (h : ∀ k, k < n → p k = q k) : ctk p n = ctk q n := by
  induction n with
  | zero => rfl
  | succ n ih => unfold ctk; rw [ih (fun k hk => h k (by omega)), h n (by omega)]
/-- the first k < n that has p, or -1 -/
def ffd (p : Nat → Bool) : Nat → Int
  | 0 => -1
  | n + 1 => if 0 ≤ ffd p n then ffd p n else if p n then (n : Int) else -1
theorem ffd_rng (p : Nat → Bool) (n : Nat) : ffd p n = -1 ∨ (0 ≤ ffd p n ∧ ffd p n < n) := by
  induction n with
  | zero => exact Or.inl rfl
  | succ n ih => unfold ffd; split
                 · omega
                 · split <;> omega
theorem ffd_no {p : Nat → Bool} {n : Nat} (h : ∀ k, k < n → p k = false) : ffd p n = -1 := by
  induction n with
  | zero => rfl
  | succ n ih => unfold ffd; rw [ih (fun k hk => h k (by omega)), h n (by omega)]; simp
theorem ffd_at {p : Nat → Bool} {n k : Nat} (hk : k < n) (hp : p k = true) (h : ∀ j, j < k → p j = false) : ffd p n = (k : Int) := by
  induction n with
  | zero => omega
  | succ n ih =>
    unfold ffd
    by_cases e : k = n
    · subst e; rw [ffd_no h]; simp [hp]
    · rw [ih (by omega)]; simp
theorem ffd_cases (p : Nat → Bool) (n : Nat) : (ffd p n = -1 ∧ ∀ k, k < n → p k = false) ∨ ∃ k, k < n ∧ p k = true ∧ (∀ j, j < k → p j = false) ∧ ffd p n = (k : Int) := by
  induction n with
  | zero => exact Or.inl ⟨rfl, fun k hk => by omega⟩
  | succ n ih =>
    rcases ih with ⟨h1, h2⟩ | ⟨k, h1, h2, h3, h4⟩
    · by_cases hp : p n = true
      · exact Or.inr ⟨n, by omega, hp, h2, ffd_at (by omega) hp h2⟩
      · have hp2 : p n = false := by simpa using hp
        have h3 : ∀ k, k < n + 1 → p k = false := fun k hk => by
          by_cases e : k = n
          · subst e; exact hp2
          · exact h2 k (by omega)
        exact Or.inl ⟨ffd_no h3, h3⟩
    · exact Or.inr ⟨k, by omega, h2, h3, ffd_at (by omega) h2 h3⟩
theorem ffd_congr {p q : Nat → Bool} {n : Nat} (h : ∀ k, k < n → p k = q k) : ffd p n = ffd q n := by
  induction n with
  | zero => rfl
  | succ n ih => unfold ffd; rw [ih (fun k hk => h k (by omega)), h n (by omega)]
theorem lp_ff {β : Type} (F : Nat → Int → Option β) (res : Int → β) (p : Nat → Bool) (B : Nat) (h0 : ∀ n, F (n + 1) (B : Int) = some (res (-1))) (h1 : ∀ n k, k < B → F (n + 1) (k : Int) = if p k then some (res k) else F n ((k + 1 : Nat) : Int)) : ∀ n k, k ≤ B → B - k < n → (∀ j, j < k → p j = false) → F n (k : Int) = some (res (ffd p B)) := by
  intro n
  induction n with
  | zero => intro k _ h; omega
  | succ n ih =>
    intro k hk hn hj
    by_cases e : k = B
    · subst e; rw [h0 n, ffd_no hj]
    · rw [h1 n k (by omega)]
      by_cases hp : p k = true
      · rw [if_pos hp, ffd_at (by omega) hp hj]
      · rw [if_neg hp]
        exact ih (k + 1) (by omega) (by omega) (fun j h2 => by
          by_cases e2 : j = k
          · subst e2; simpa using hp
          · exact hj j (by omega))
abbrev Ga : Type := Nat → Int
/-- cell v of line c -/
def gl (g : Ga) (c v : Nat) : Int := g (132 + 16 * c + v)
/-- cell v of the k-th ticket -/
def gt (g : Ga) (k v : Nat) : Int := g (212 + 8 * k + v)
def isFr (g : Ga) (c t : Int) (k : Nat) : Bool := gt g k 1 = c ∧ gt g k 2 = t
def sold (g : Ga) (c t h : Int) : Int := ctk (fun k => gt g k 1 = c ∧ gt g k 2 = t ∧ gt g k 3 ≤ h ∧ h < gt g k 4) (g 3).toNat
def GL (g : Ga) (c : Nat) : Prop := (0 ≤ gl g c 0 ∧ gl g c 0 ≤ 60) ∧ (0 ≤ gl g c 1 ∧ gl g c 1 ≤ 59) ∧ (0 ≤ gl g c 2 ∧ gl g c 2 ≤ 9) ∧ (0 ≤ gl g c 3 ∧ gl g c 3 ≤ 5) ∧ (0 ≤ gl g c 4 ∧ gl g c 4 ≤ 20) ∧ (0 ≤ gl g c 5 ∧ gl g c 5 ≤ 6) ∧ (bit (gl g c 6)) ∧ (∀ p : Nat, (p : Int) < gl g c 5 → 0 ≤ gl g c (7 + p) ∧ gl g c (7 + p) < g 0) ∧ (∀ p q : Nat, (p : Int) < gl g c 5 → (q : Int) < gl g c 5 → gl g c (7 + p) = gl g c (7 + q) → p = q) ∧ ((c : Int) < g 2 → 1 ≤ gl g c 0 ∧ 1 ≤ gl g c 2 ∧ 1 ≤ gl g c 4) ∧ (g 2 ≤ (c : Int) → gl g c 3 = 0 ∧ gl g c 5 = 0 ∧ gl g c 6 = 0)
theorem GL.hw {g : Ga} {c : Nat} (h : GL g c) : 0 ≤ gl g c 0 ∧ gl g c 0 ≤ 60 := h.1
theorem GL.of {g : Ga} {c : Nat} (h : GL g c) : 0 ≤ gl g c 1 ∧ gl g c 1 ≤ 59 := h.2.1
theorem GL.hp {g : Ga} {c : Nat} (h : GL g c) : 0 ≤ gl g c 2 ∧ gl g c 2 ≤ 9 := h.2.2.1
theorem GL.dl {g : Ga} {c : Nat} (h : GL g c) : 0 ≤ gl g c 3 ∧ gl g c 3 ≤ 5 := h.2.2.2.1
theorem GL.se {g : Ga} {c : Nat} (h : GL g c) : 0 ≤ gl g c 4 ∧ gl g c 4 ≤ 20 := h.2.2.2.2.1
theorem GL.sz {g : Ga} {c : Nat} (h : GL g c) : 0 ≤ gl g c 5 ∧ gl g c 5 ≤ 6 := h.2.2.2.2.2.1
theorem GL.su {g : Ga} {c : Nat} (h : GL g c) : bit (gl g c 6) := h.2.2.2.2.2.2.1
theorem GL.rg {g : Ga} {c : Nat} (h : GL g c) : ∀ p : Nat, (p : Int) < gl g c 5 → 0 ≤ gl g c (7 + p) ∧ gl g c (7 + p) < g 0 := h.2.2.2.2.2.2.2.1
theorem GL.ds {g : Ga} {c : Nat} (h : GL g c) : ∀ p q : Nat, (p : Int) < gl g c 5 → (q : Int) < gl g c 5 → gl g c (7 + p) = gl g c (7 + q) → p = q := h.2.2.2.2.2.2.2.2.1
theorem GL.on {g : Ga} {c : Nat} (h : GL g c) : (c : Int) < g 2 → 1 ≤ gl g c 0 ∧ 1 ≤ gl g c 2 ∧ 1 ≤ gl g c 4 := h.2.2.2.2.2.2.2.2.2.1
theorem GL.off {g : Ga} {c : Nat} (h : GL g c) : g 2 ≤ (c : Int) → gl g c 3 = 0 ∧ gl g c 5 = 0 ∧ gl g c 6 = 0 := h.2.2.2.2.2.2.2.2.2.2
theorem GL.mk {g : Ga} {c : Nat} (hw9 : 0 ≤ gl g c 0 ∧ gl g c 0 ≤ 60) (of9 : 0 ≤ gl g c 1 ∧ gl g c 1 ≤ 59) (hp9 : 0 ≤ gl g c 2 ∧ gl g c 2 ≤ 9) (dl9 : 0 ≤ gl g c 3 ∧ gl g c 3 ≤ 5) (se9 : 0 ≤ gl g c 4 ∧ gl g c 4 ≤ 20) (sz9 : 0 ≤ gl g c 5 ∧ gl g c 5 ≤ 6) (su9 : bit (gl g c 6)) (rg9 : ∀ p : Nat, (p : Int) < gl g c 5 → 0 ≤ gl g c (7 + p) ∧ gl g c (7 + p) < g 0) (ds9 : ∀ p q : Nat, (p : Int) < gl g c 5 → (q : Int) < gl g c 5 → gl g c (7 + p) = gl g c (7 + q) → p = q) (on9 : (c : Int) < g 2 → 1 ≤ gl g c 0 ∧ 1 ≤ gl g c 2 ∧ 1 ≤ gl g c 4) (off9 : g 2 ≤ (c : Int) → gl g c 3 = 0 ∧ gl g c 5 = 0 ∧ gl g c 6 = 0) : GL g c := ⟨hw9, of9, hp9, dl9, se9, sz9, su9, rg9, ds9, on9, off9⟩
def GT (g : Ga) (k : Nat) : Prop := (0 ≤ gt g k 0 ∧ gt g k 0 < g 4) ∧ (0 ≤ gt g k 1 ∧ gt g k 1 < g 2) ∧ (0 ≤ gt g k 2 ∧ gt g k 2 ≤ 99) ∧ (0 ≤ gt g k 3 ∧ gt g k 3 < gt g k 4) ∧ (gt g k 4 ≤ gl g (gt g k 1).toNat 5) ∧ (0 ≤ gt g k 5 ∧ gt g k 5 ≤ 18)
theorem GT.id {g : Ga} {k : Nat} (h : GT g k) : 0 ≤ gt g k 0 ∧ gt g k 0 < g 4 := h.1
theorem GT.ln {g : Ga} {k : Nat} (h : GT g k) : 0 ≤ gt g k 1 ∧ gt g k 1 < g 2 := h.2.1
theorem GT.tr {g : Ga} {k : Nat} (h : GT g k) : 0 ≤ gt g k 2 ∧ gt g k 2 ≤ 99 := h.2.2.1
theorem GT.fr {g : Ga} {k : Nat} (h : GT g k) : 0 ≤ gt g k 3 ∧ gt g k 3 < gt g k 4 := h.2.2.2.1
theorem GT.to {g : Ga} {k : Nat} (h : GT g k) : gt g k 4 ≤ gl g (gt g k 1).toNat 5 := h.2.2.2.2.1
theorem GT.pr {g : Ga} {k : Nat} (h : GT g k) : 0 ≤ gt g k 5 ∧ gt g k 5 ≤ 18 := h.2.2.2.2.2
theorem GT.mk {g : Ga} {k : Nat} (id9 : 0 ≤ gt g k 0 ∧ gt g k 0 < g 4) (ln9 : 0 ≤ gt g k 1 ∧ gt g k 1 < g 2) (tr9 : 0 ≤ gt g k 2 ∧ gt g k 2 ≤ 99) (fr9 : 0 ≤ gt g k 3 ∧ gt g k 3 < gt g k 4) (to9 : gt g k 4 ≤ gl g (gt g k 1).toNat 5) (pr9 : 0 ≤ gt g k 5 ∧ gt g k 5 ≤ 18) : GT g k := ⟨id9, ln9, tr9, fr9, to9, pr9⟩
/-- what holds of the model's array after at most K commands -/
def GI (K : Int) (g : Ga) : Prop := (0 ≤ g 0 ∧ g 0 ≤ 10) ∧ (-K ≤ g 1 ∧ g 1 ≤ 15) ∧ (0 ≤ g 2 ∧ g 2 ≤ 5) ∧ (0 ≤ g 3 ∧ g 3 ≤ 16) ∧ (0 ≤ g 4 ∧ g 4 ≤ K) ∧ (0 ≤ g 5 ∧ g 5 ≤ 120 * K) ∧ (bit (g 6)) ∧ (-(18 * K) ≤ g 7 ∧ g 7 ≤ 18 * K) ∧ (0 ≤ g 8 ∧ g 8 ≤ 18 * K) ∧ (0 ≤ g 9 ∧ g 9 ≤ 16 * K) ∧ (∀ i, i < 10 → 0 ≤ g (12 + 2 * i) ∧ g (12 + 2 * i) ≤ 9) ∧ (∀ i, i < 10 → bit (g (13 + 2 * i))) ∧ (∀ i : Nat, i < 10 → g 0 ≤ (i : Int) → g (13 + 2 * i) = 0) ∧ (∀ a b, a < 10 → b < 10 → 0 ≤ g (32 + 10 * a + b) ∧ g (32 + 10 * a + b) ≤ 30) ∧ (∀ c, c < 5 → GL g c) ∧ (∀ k : Nat, (k : Int) < g 3 → GT g k) ∧ (∀ c : Nat, c < 5 → ∀ t h, sold g c t h ≤ gl g c 4)
theorem GI.st {K : Int} {g : Ga} (h : GI K g) : 0 ≤ g 0 ∧ g 0 ≤ 10 := h.1
theorem GI.wk {K : Int} {g : Ga} (h : GI K g) : -K ≤ g 1 ∧ g 1 ≤ 15 := h.2.1
theorem GI.ln {K : Int} {g : Ga} (h : GI K g) : 0 ≤ g 2 ∧ g 2 ≤ 5 := h.2.2.1
theorem GI.tk {K : Int} {g : Ga} (h : GI K g) : 0 ≤ g 3 ∧ g 3 ≤ 16 := h.2.2.2.1
theorem GI.nx {K : Int} {g : Ga} (h : GI K g) : 0 ≤ g 4 ∧ g 4 ≤ K := h.2.2.2.2.1
theorem GI.mi {K : Int} {g : Ga} (h : GI K g) : 0 ≤ g 5 ∧ g 5 ≤ 120 * K := h.2.2.2.2.2.1
theorem GI.ra {K : Int} {g : Ga} (h : GI K g) : bit (g 6) := h.2.2.2.2.2.2.1
theorem GI.ic {K : Int} {g : Ga} (h : GI K g) : -(18 * K) ≤ g 7 ∧ g 7 ≤ 18 * K := h.2.2.2.2.2.2.2.1
theorem GI.rf {K : Int} {g : Ga} (h : GI K g) : 0 ≤ g 8 ∧ g 8 ≤ 18 * K := h.2.2.2.2.2.2.2.2.1
theorem GI.us {K : Int} {g : Ga} (h : GI K g) : 0 ≤ g 9 ∧ g 9 ≤ 16 * K := h.2.2.2.2.2.2.2.2.2.1
theorem GI.tr {K : Int} {g : Ga} (h : GI K g) : ∀ i, i < 10 → 0 ≤ g (12 + 2 * i) ∧ g (12 + 2 * i) ≤ 9 := h.2.2.2.2.2.2.2.2.2.2.1
theorem GI.cl {K : Int} {g : Ga} (h : GI K g) : ∀ i, i < 10 → bit (g (13 + 2 * i)) := h.2.2.2.2.2.2.2.2.2.2.2.1
theorem GI.co {K : Int} {g : Ga} (h : GI K g) : ∀ i : Nat, i < 10 → g 0 ≤ (i : Int) → g (13 + 2 * i) = 0 := h.2.2.2.2.2.2.2.2.2.2.2.2.1
theorem GI.wl {K : Int} {g : Ga} (h : GI K g) : ∀ a b, a < 10 → b < 10 → 0 ≤ g (32 + 10 * a + b) ∧ g (32 + 10 * a + b) ≤ 30 := h.2.2.2.2.2.2.2.2.2.2.2.2.2.1
theorem GI.li {K : Int} {g : Ga} (h : GI K g) : ∀ c, c < 5 → GL g c := h.2.2.2.2.2.2.2.2.2.2.2.2.2.2.1
theorem GI.ti {K : Int} {g : Ga} (h : GI K g) : ∀ k : Nat, (k : Int) < g 3 → GT g k := h.2.2.2.2.2.2.2.2.2.2.2.2.2.2.2.1
theorem GI.cap {K : Int} {g : Ga} (h : GI K g) : ∀ c : Nat, c < 5 → ∀ t h, sold g c t h ≤ gl g c 4 := h.2.2.2.2.2.2.2.2.2.2.2.2.2.2.2.2
theorem GI.mk {K : Int} {g : Ga} (st9 : 0 ≤ g 0 ∧ g 0 ≤ 10) (wk9 : -K ≤ g 1 ∧ g 1 ≤ 15) (ln9 : 0 ≤ g 2 ∧ g 2 ≤ 5) (tk9 : 0 ≤ g 3 ∧ g 3 ≤ 16) (nx9 : 0 ≤ g 4 ∧ g 4 ≤ K) (mi9 : 0 ≤ g 5 ∧ g 5 ≤ 120 * K) (ra9 : bit (g 6)) (ic9 : -(18 * K) ≤ g 7 ∧ g 7 ≤ 18 * K) (rf9 : 0 ≤ g 8 ∧ g 8 ≤ 18 * K) (us9 : 0 ≤ g 9 ∧ g 9 ≤ 16 * K) (tr9 : ∀ i, i < 10 → 0 ≤ g (12 + 2 * i) ∧ g (12 + 2 * i) ≤ 9) (cl9 : ∀ i, i < 10 → bit (g (13 + 2 * i))) (co9 : ∀ i : Nat, i < 10 → g 0 ≤ (i : Int) → g (13 + 2 * i) = 0) (wl9 : ∀ a b, a < 10 → b < 10 → 0 ≤ g (32 + 10 * a + b) ∧ g (32 + 10 * a + b) ≤ 30) (li9 : ∀ c, c < 5 → GL g c) (ti9 : ∀ k : Nat, (k : Int) < g 3 → GT g k) (cap9 : ∀ c : Nat, c < 5 → ∀ t h, sold g c t h ≤ gl g c 4) : GI K g := ⟨st9, wk9, ln9, tk9, nx9, mi9, ra9, ic9, rf9, us9, tr9, cl9, co9, wl9, li9, ti9, cap9⟩
/-- the row of tickets is a row of different objects -/
def RW (b : Nat) (σ : Sm) : Prop := (∀ k, k < 16 → ∃ m : Nat, m < 16 ∧ σ (b + 6) k = ((b + 7 + m : Nat) : Int)) ∧ ∀ j k, j < 16 → k < 16 → σ (b + 6) j = σ (b + 6) k → j = k
/-- the role of the k-th ticket -/
def tkr (b : Nat) (σ : Sm) (k : Nat) : Nat := (σ (b + 6) k).toNat
/-- the network of role b is g -/
def NR (b : Nat) (σ : Sm) (g : Ga) : Prop := (σ b 0 = g 5) ∧ (σ b 1 = g 6) ∧ (σ b 2 = g 0) ∧ (σ b 5 = g 1) ∧ (σ b 7 = g 2) ∧ (∀ i : Nat, (i : Int) < g 0 → σ (b + 1) i = g (12 + 2 * i)) ∧ (∀ i : Nat, (i : Int) < g 0 → σ (b + 2) i = g (13 + 2 * i)) ∧ (∀ a c, a < 10 → c < 10 → σ (b + 3) (10 * a + c) = g (32 + 10 * a + c)) ∧ (∀ c : Nat, (c : Int) < g 2 → σ (b + 23 + 2 * c) 0 = gl g c 0 ∧ σ (b + 23 + 2 * c) 1 = gl g c 1 ∧ σ (b + 23 + 2 * c) 2 = gl g c 2 ∧ σ (b + 23 + 2 * c) 3 = gl g c 3 ∧ σ (b + 23 + 2 * c) 4 = gl g c 4 ∧ σ (b + 23 + 2 * c) 5 = gl g c 6 ∧ σ (b + 23 + 2 * c) 6 = gl g c 5) ∧ (∀ c : Nat, (c : Int) < g 2 → ∀ p : Nat, (p : Int) < gl g c 5 → σ (b + 23 + 2 * c + 1) p = gl g c (7 + p)) ∧ (σ (b + 5) 1 = g 3) ∧ (σ (b + 5) 2 = g 4) ∧ (σ (b + 5) 3 = g 7) ∧ (σ (b + 5) 4 = g 8) ∧ (σ (b + 5) 5 = g 9) ∧ (∀ k : Nat, (k : Int) < g 3 → ∀ v, v < 6 → σ (tkr b σ k) v = gt g k v)
theorem NR.mi {b : Nat} {σ : Sm} {g : Ga} (h : NR b σ g) : σ b 0 = g 5 := h.1
theorem NR.ra {b : Nat} {σ : Sm} {g : Ga} (h : NR b σ g) : σ b 1 = g 6 := h.2.1
theorem NR.st {b : Nat} {σ : Sm} {g : Ga} (h : NR b σ g) : σ b 2 = g 0 := h.2.2.1
theorem NR.wk {b : Nat} {σ : Sm} {g : Ga} (h : NR b σ g) : σ b 5 = g 1 := h.2.2.2.1
theorem NR.ln {b : Nat} {σ : Sm} {g : Ga} (h : NR b σ g) : σ b 7 = g 2 := h.2.2.2.2.1
theorem NR.tr {b : Nat} {σ : Sm} {g : Ga} (h : NR b σ g) : ∀ i : Nat, (i : Int) < g 0 → σ (b + 1) i = g (12 + 2 * i) := h.2.2.2.2.2.1
theorem NR.cl {b : Nat} {σ : Sm} {g : Ga} (h : NR b σ g) : ∀ i : Nat, (i : Int) < g 0 → σ (b + 2) i = g (13 + 2 * i) := h.2.2.2.2.2.2.1
theorem NR.wl {b : Nat} {σ : Sm} {g : Ga} (h : NR b σ g) : ∀ a c, a < 10 → c < 10 → σ (b + 3) (10 * a + c) = g (32 + 10 * a + c) := h.2.2.2.2.2.2.2.1
theorem NR.li {b : Nat} {σ : Sm} {g : Ga} (h : NR b σ g) : ∀ c : Nat, (c : Int) < g 2 → σ (b + 23 + 2 * c) 0 = gl g c 0 ∧ σ (b + 23 + 2 * c) 1 = gl g c 1 ∧ σ (b + 23 + 2 * c) 2 = gl g c 2 ∧ σ (b + 23 + 2 * c) 3 = gl g c 3 ∧ σ (b + 23 + 2 * c) 4 = gl g c 4 ∧ σ (b + 23 + 2 * c) 5 = gl g c 6 ∧ σ (b + 23 + 2 * c) 6 = gl g c 5 := h.2.2.2.2.2.2.2.2.1
theorem NR.rg {b : Nat} {σ : Sm} {g : Ga} (h : NR b σ g) : ∀ c : Nat, (c : Int) < g 2 → ∀ p : Nat, (p : Int) < gl g c 5 → σ (b + 23 + 2 * c + 1) p = gl g c (7 + p) := h.2.2.2.2.2.2.2.2.2.1
theorem NR.tk {b : Nat} {σ : Sm} {g : Ga} (h : NR b σ g) : σ (b + 5) 1 = g 3 := h.2.2.2.2.2.2.2.2.2.2.1
theorem NR.nx {b : Nat} {σ : Sm} {g : Ga} (h : NR b σ g) : σ (b + 5) 2 = g 4 := h.2.2.2.2.2.2.2.2.2.2.2.1
theorem NR.ic {b : Nat} {σ : Sm} {g : Ga} (h : NR b σ g) : σ (b + 5) 3 = g 7 := h.2.2.2.2.2.2.2.2.2.2.2.2.1
theorem NR.rf {b : Nat} {σ : Sm} {g : Ga} (h : NR b σ g) : σ (b + 5) 4 = g 8 := h.2.2.2.2.2.2.2.2.2.2.2.2.2.1
theorem NR.us {b : Nat} {σ : Sm} {g : Ga} (h : NR b σ g) : σ (b + 5) 5 = g 9 := h.2.2.2.2.2.2.2.2.2.2.2.2.2.2.1
theorem NR.ti {b : Nat} {σ : Sm} {g : Ga} (h : NR b σ g) : ∀ k : Nat, (k : Int) < g 3 → ∀ v, v < 6 → σ (tkr b σ k) v = gt g k v := h.2.2.2.2.2.2.2.2.2.2.2.2.2.2.2
theorem NR.mk {b : Nat} {σ : Sm} {g : Ga} (mi9 : σ b 0 = g 5) (ra9 : σ b 1 = g 6) (st9 : σ b 2 = g 0) (wk9 : σ b 5 = g 1) (ln9 : σ b 7 = g 2) (tr9 : ∀ i : Nat, (i : Int) < g 0 → σ (b + 1) i = g (12 + 2 * i)) (cl9 : ∀ i : Nat, (i : Int) < g 0 → σ (b + 2) i = g (13 + 2 * i)) (wl9 : ∀ a c, a < 10 → c < 10 → σ (b + 3) (10 * a + c) = g (32 + 10 * a + c)) (li9 : ∀ c : Nat, (c : Int) < g 2 → σ (b + 23 + 2 * c) 0 = gl g c 0 ∧ σ (b + 23 + 2 * c) 1 = gl g c 1 ∧ σ (b + 23 + 2 * c) 2 = gl g c 2 ∧ σ (b + 23 + 2 * c) 3 = gl g c 3 ∧ σ (b + 23 + 2 * c) 4 = gl g c 4 ∧ σ (b + 23 + 2 * c) 5 = gl g c 6 ∧ σ (b + 23 + 2 * c) 6 = gl g c 5) (rg9 : ∀ c : Nat, (c : Int) < g 2 → ∀ p : Nat, (p : Int) < gl g c 5 → σ (b + 23 + 2 * c + 1) p = gl g c (7 + p)) (tk9 : σ (b + 5) 1 = g 3) (nx9 : σ (b + 5) 2 = g 4) (ic9 : σ (b + 5) 3 = g 7) (rf9 : σ (b + 5) 4 = g 8) (us9 : σ (b + 5) 5 = g 9) (ti9 : ∀ k : Nat, (k : Int) < g 3 → ∀ v, v < 6 → σ (tkr b σ k) v = gt g k v) : NR b σ g := ⟨mi9, ra9, st9, wk9, ln9, tr9, cl9, wl9, li9, rg9, tk9, nx9, ic9, rf9, us9, ti9⟩
/-- the same roles from b to b + 32 -/
def sameN (b : Nat) (σ τ : Sm) : Prop := ∀ r, b ≤ r → r < b + 33 → τ r = σ r
def offN (b : Nat) (σ τ : Sm) : Prop := ∀ r, r < b ∨ b + 33 ≤ r → τ r = σ r
theorem offN.refl (b : Nat) (σ : Sm) : offN b σ σ := fun _ _ => rfl
theorem offN.trans {b : Nat} {σ τ υ : Sm} (h : offN b σ τ) (h2 : offN b τ υ) : offN b σ υ := fun r hr => (h2 r hr).trans (h r hr)
theorem tkr_ge {b : Nat} {σ : Sm} (R : RW b σ) {k : Nat} (hk : k < 16) : b + 7 ≤ tkr b σ k ∧ tkr b σ k < b + 23 := by
  obtain ⟨m, h1, h2⟩ := R.1 k hk
  unfold tkr
  rw [h2]
  omega
theorem tkr_inj {b : Nat} {σ : Sm} (R : RW b σ) {j k : Nat} (hj : j < 16) (hk : k < 16) (h : tkr b σ j = tkr b σ k) : j = k := by
  obtain ⟨m, h1, h2⟩ := R.1 j hj
  obtain ⟨m2, h3, h4⟩ := R.1 k hk
  refine R.2 j k hj hk ?_
  unfold tkr at h
  rw [h2, h4] at h ⊢
  omega
theorem NR.same {b : Nat} {σ τ : Sm} {g : Ga} (h : NR b σ g) (R : RW b σ) (ht : g 3 ≤ 16) (hl : g 2 ≤ 5) (hs : sameN b σ τ) : NR b τ g := by
  have e : ∀ r, b ≤ r → r < b + 33 → ∀ i, τ r i = σ r i := fun r h1 h2 i => by rw [hs r h1 h2]
  have et : ∀ k, tkr b τ k = tkr b σ k := fun k => by unfold tkr; rw [e (b + 6) (by omega) (by omega)]
  apply NR.mk
  · rw [e b (by omega) (by omega)]; exact h.mi
  · rw [e b (by omega) (by omega)]; exact h.ra
  · rw [e b (by omega) (by omega)]; exact h.st
  · rw [e b (by omega) (by omega)]; exact h.wk
  · rw [e b (by omega) (by omega)]; exact h.ln
  · intro i hi; rw [e (b + 1) (by omega) (by omega)]; exact h.tr i hi
  · intro i hi; rw [e (b + 2) (by omega) (by omega)]; exact h.cl i hi
  · intro a c ha hc; rw [e (b + 3) (by omega) (by omega)]; exact h.wl a c ha hc
  · intro c hc; rw [e (b + 23 + 2 * c) (by omega) (by omega)]; simp only [e (b + 23 + 2 * c) (by omega) (by omega)]; exact h.li c hc
  · intro c hc p hp; rw [e (b + 23 + 2 * c + 1) (by omega) (by omega)]; exact h.rg c hc p hp
  · rw [e (b + 5) (by omega) (by omega)]; exact h.tk
  · rw [e (b + 5) (by omega) (by omega)]; exact h.nx
  · rw [e (b + 5) (by omega) (by omega)]; exact h.ic
  · rw [e (b + 5) (by omega) (by omega)]; exact h.rf
  · rw [e (b + 5) (by omega) (by omega)]; exact h.us
  · intro k hk v hv
    have := tkr_ge R (k := k) (by omega)
    rw [et, e (tkr b σ k) (by omega) (by omega)]; exact h.ti k hk v hv
theorem RW.same {b : Nat} {σ τ : Sm} (R : RW b σ) (h : τ (b + 6) = σ (b + 6)) : RW b τ := by
  unfold RW
  rw [h]
  exact R
