/-! THE MODEL'S WORLD: one object, ten arrays of ints; σ space index. Spaces: 1 now 2 before 3 saved 4 history 5 there 6 ready 7 output 8 input 9 kinds 10 arguments; fields (index 0): 11 thrown 12 depth 13 wrongAt 14 failedAt 15 isSaved 16 outputLength 17 length 18 scriptLength 19 at 20 commands 21 isWrong -/
abbrev Sm : Type := Nat → Nat → Int
def upm (σ : Sm) (s i : Nat) (v : Int) : Sm := fun s' i' => if s' = s ∧ i' = i then v else σ s' i'
def wfm (σ : Sm) : Prop := ∀ s i, rng (σ s i)
theorem wfm_up {σ : Sm} (h : wfm σ) {v : Int} (hv : rng v) (s i : Nat) : wfm (upm σ s i v) := fun s' i' => by
  unfold upm
  split
  · exact hv
  · exact h s' i'
def mlen (r : Nat) : Nat := if r = 1 then 340 else if r = 2 then 340 else if r = 3 then 340 else if r = 4 then 2720 else if r = 5 then 10 else if r = 6 then 10 else if r = 7 then 80 else if r = 8 then 60 else if r = 9 then 32 else 128
abbrev marr (cy : ClassId) (ad : Nat → Nat) (σ : Sm) (r : Nat) : Nat × va_E := (ad r, .inl (cy, mlen r, .inl (fun j => Int32.ofInt (σ r j))))
def mfs (ad : Nat → Nat) (σ : Sm) : List Value := [.ref (ad 1), .ref (ad 2), .ref (ad 3), .ref (ad 4), .ref (ad 5), .ref (ad 6), vi (σ 11 0), vi (σ 12 0), vi (σ 13 0), vi (σ 14 0), vi (σ 15 0), .ref (ad 7), vi (σ 16 0), .ref (ad 8), .ref (ad 9), .ref (ad 10), vi (σ 17 0), vi (σ 18 0), vi (σ 19 0), vi (σ 20 0), vi (σ 21 0)]
def wlm (cy : ClassId) (ad : Nat → Nat) (σ : Sm) : va_W := [(ad 0, .inr (14, mfs ad σ)), marr cy ad σ 1, marr cy ad σ 2, marr cy ad σ 3, marr cy ad σ 4, marr cy ad σ 5, marr cy ad σ 6, marr cy ad σ 7, marr cy ad σ 8, marr cy ad σ 9, marr cy ad σ 10]
abbrev isA (r : Nat) : Prop := 1 ≤ r ∧ r ≤ 10
theorem mlen_le (r : Nat) : mlen r ≤ 2147483647 := by unfold mlen; repeat' split
                                                      all_goals decide
theorem wlm_arr {cy : ClassId} {ad : Nat → Nat} {σ : Sm} {r : Nat} (h : isA r) : (wlm cy ad σ)[r]? = some (marr cy ad σ r) := by
  obtain ⟨h1, h2⟩ := h
  have : r = 1 ∨ r = 2 ∨ r = 3 ∨ r = 4 ∨ r = 5 ∨ r = 6 ∨ r = 7 ∨ r = 8 ∨ r = 9 ∨ r = 10 := by omega
  rcases this with rfl | rfl | rfl | rfl | rfl | rfl | rfl | rfl | rfl | rfl <;> rfl
theorem upm_arr_ne {cy : ClassId} {ad : Nat → Nat} {σ : Sm} {s i : Nat} {v : Int} {r : Nat} (h : r ≠ s) : marr cy ad (upm σ s i v) r = marr cy ad σ r := by
  have : (fun j => Int32.ofInt (upm σ s i v r j)) = fun j => Int32.ofInt (σ r j) := by funext j; simp [upm, h]
  simp only [marr, this]
theorem mfs_arr {ad : Nat → Nat} {σ : Sm} {s i : Nat} {v : Int} (h : isA s) : mfs ad (upm σ s i v) = mfs ad σ := by
  obtain ⟨h1, h2⟩ := h
  have e : ∀ k : Nat, 11 ≤ k → upm σ s i v k 0 = σ k 0 := fun k hk => by simp [upm]; omega
  simp only [mfs, e 11 (by decide), e 12 (by decide), e 13 (by decide), e 14 (by decide), e 15 (by decide), e 16 (by decide), e 17 (by decide), e 18 (by decide), e 19 (by decide), e 20 (by decide), e 21 (by decide)]
theorem upm_ofInt {σ : Sm} {s i : Nat} {v : Int} : (fun j => Int32.ofInt (upm σ s i v s j)) = upd (fun j => Int32.ofInt (σ s j)) i (Int32.ofInt v) := by
  funext j
  by_cases h : j = i
  · subst h; simp [upm, upd]
  · simp [upm, upd, h]
theorem wlm_set_arr {cy : ClassId} {ad : Nat → Nat} {σ : Sm} {s i : Nat} {v : Int} (h : isA s) : (wlm cy ad σ).set s (ad s, .inl (cy, mlen s, .inl (upd (fun j => Int32.ofInt (σ s j)) i (Int32.ofInt v)))) = wlm cy ad (upm σ s i v) := by
  have hm := mfs_arr (ad := ad) (σ := σ) (i := i) (v := v) h
  obtain ⟨h1, h2⟩ := h
  have : s = 1 ∨ s = 2 ∨ s = 3 ∨ s = 4 ∨ s = 5 ∨ s = 6 ∨ s = 7 ∨ s = 8 ∨ s = 9 ∨ s = 10 := by omega
  have e : ∀ r : Nat, r ≠ s → marr cy ad (upm σ s i v) r = marr cy ad σ r := fun r hr => upm_arr_ne hr
  have e2 : marr cy ad (upm σ s i v) s = (ad s, .inl (cy, mlen s, .inl (upd (fun j => Int32.ofInt (σ s j)) i (Int32.ofInt v)))) := by simp only [marr, upm_ofInt]
  rcases this with rfl | rfl | rfl | rfl | rfl | rfl | rfl | rfl | rfl | rfl <;>
    (simp only [wlm, hm, List.set_cons_succ, List.set_cons_zero]
     rw [e2]
     repeat rw [e]
     all_goals (first | rfl | decide))
section MR
variable {O : Type} {X : vjX} {kp : O → Prop} {cc : ByteArray} {ret : Option FieldType} {Rm : Room} {a b pc : Nat} {L L' : List (Nat × Value)} {st : List Value} {σ : Sm} {cy : ClassId} {ad : Nat → Nat} {G : va_G} {A : Nat → Prop} {nL : Nat} {Q : State → Prop} {r : Option O}
abbrev Ym (cy : ClassId) (ad : Nat → Nat) (G : va_G) (A : Nat → Prop) (nL : Nat) (Q : State → Prop) : vjY Sm := (wlm cy ad, wfm, G, A, nL, Q)
abbrev tym (cy : ClassId) : List (ClassId × FieldType) := [(cy, .int)]
theorem Tm_iald (C : Cx X (Ym cy ad G A nL Q) cc RX13 ret Rm (tym cy)) {i : Int} (s k : Nat) (hs : isA s) (hi : 0 ≤ i ∧ i < mlen s) (hk0 : i.toNat = k) (d : decode cc pc = .ok (.iaload, 1)) (K : rng (σ s k) → T X (Ym cy ad G A nL Q) kp a b (pc + 1) L (vi (σ s k) :: st) σ r) : T X (Ym cy ad G A nL Q) kp a b pc L (vi i :: .ref (ad s) :: st) σ r := fun o h hk H locs ls hP hD hS hw hl => by
  refine va_iald (q0 := s) (t0 := 0) C.1 C.2.1 C.2.2.2.2.2.1 hP (wlm_arr hs) rfl (ix_in hi (mlen_le s)) d ?_
  rw [ix_nat hi (mlen_le s), hk0]
  exact K (hw s k) o h hk H locs ls hP hD hS hw hl
theorem Tm_iast (C : Cx X (Ym cy ad G A nL Q) cc RX13 ret Rm (tym cy)) {i v : Int} (s k : Nat) (hs : isA s) (hi : 0 ≤ i ∧ i < mlen s) (hk0 : i.toNat = k) (hv : rng v) (d : decode cc pc = .ok (.iastore, 1)) (K : T X (Ym cy ad G A nL Q) kp a b (pc + 1) L st (upm σ s k v) r) : T X (Ym cy ad G A nL Q) kp a b pc L (vi v :: vi i :: .ref (ad s) :: st) σ r := fun o h hk H locs ls hP hD hS hw hl => by
  refine va_iast (q0 := s) (t0 := 0) C.1 C.2.1 C.2.2.2.2.2.1 hP hD hS (wlm_arr hs) rfl (ix_in hi (mlen_le s)) d (fun H1 locs1 hP1 hD1 hS1 => ?_)
  rw [ix_nat hi (mlen_le s), hk0, wlm_set_arr hs] at hP1 hD1
  exact K o h hk H1 locs1 ls hP1 hD1 hS1 (wfm_up hw hv s k) hl
theorem inX13 : ∀ w ∈ u_ws RX13 TX13 21, w ∈ lwG := by decide +kernel
/-- a field's place and the space of its number -/
def mfk : Nat → Nat := fun s => if s = 11 then 6 else if s = 12 then 7 else if s = 13 then 8 else if s = 14 then 9 else if s = 15 then 10 else if s = 16 then 12 else s - 1
abbrev isF (s : Nat) : Prop := 11 ≤ s ∧ s ≤ 21
theorem mfs_at {ad : Nat → Nat} {σ : Sm} {s : Nat} (h : isF s) : (mfs ad σ)[mfk s]? = some (vi (σ s 0)) ∧ mfk s < 21 ∧ (TX13 (mfk s)).2.2.2 = false ∧ (TX13 (mfk s)).1 = RX13 := by
  obtain ⟨h1, h2⟩ := h
  have : s = 11 ∨ s = 12 ∨ s = 13 ∨ s = 14 ∨ s = 15 ∨ s = 16 ∨ s = 17 ∨ s = 18 ∨ s = 19 ∨ s = 20 ∨ s = 21 := by omega
  rcases this with rfl | rfl | rfl | rfl | rfl | rfl | rfl | rfl | rfl | rfl | rfl <;> exact ⟨rfl, by decide, rfl, rfl⟩
theorem wlm_set_f {cy : ClassId} {ad : Nat → Nat} {σ : Sm} {s : Nat} {v : Int} (h : isF s) : (wlm cy ad σ).set 0 (ad 0, .inr (14, (mfs ad σ).set (mfk s) (vi v))) = wlm cy ad (upm σ s 0 v) := by
  obtain ⟨h1, h2⟩ := h
  have e : ∀ r : Nat, r ≤ 10 → marr cy ad (upm σ s 0 v) r = marr cy ad σ r := fun r hr => upm_arr_ne (by omega)
  have : s = 11 ∨ s = 12 ∨ s = 13 ∨ s = 14 ∨ s = 15 ∨ s = 16 ∨ s = 17 ∨ s = 18 ∨ s = 19 ∨ s = 20 ∨ s = 21 := by omega
  simp only [wlm, e 1 (by decide), e 2 (by decide), e 3 (by decide), e 4 (by decide), e 5 (by decide), e 6 (by decide), e 7 (by decide), e 8 (by decide), e 9 (by decide), e 10 (by decide), List.set_cons_zero]
  rcases this with rfl | rfl | rfl | rfl | rfl | rfl | rfl | rfl | rfl | rfl | rfl <;> simp [mfs, mfk, upm]
theorem Tm_get (C : Cx X (Ym cy ad G A nL Q) cc RX13 ret Rm (tym cy)) {idx : Nat} (s : Nat) (hs : isF s) (hlink : Cond.fieldLink RX13 idx RX13 (TX13 (mfk s)).2.1 (TX13 (mfk s)).2.2.1 ∈ lwG) (d : decode cc pc = .ok (.getfield idx, 3)) (K : rng (σ s 0) → T X (Ym cy ad G A nL Q) kp a b (pc + 3) L (vi (σ s 0) :: st) σ r) : T X (Ym cy ad G A nL Q) kp a b pc L (.ref (ad 0) :: st) σ r := fun o h hk H locs ls hP hD hS hw hl => by
  obtain ⟨f1, f2, f3, f4⟩ := mfs_at (ad := ad) (σ := σ) hs
  exact va_get (ci := 14) (q0 := 0) C.1 C.2.1 (Ts := lwG) C.2.2.2.2.1 inX13 C.2.2.2.1 C.2.2.2.2.2.1 hP rfl rfl (mfk s) f2 (C.2.2.2.2.1 _ hlink) (by rw [f4]; exact fun _ h9 => h9) f1 d (K (hw s 0) o h hk H locs ls hP hD hS hw hl)
theorem Tm_getA (C : Cx X (Ym cy ad G A nL Q) cc RX13 ret Rm (tym cy)) {idx : Nat} (k s : Nat) (hk : k < 21) (hfs : ∀ σ : Sm, (mfs ad σ)[k]? = some (.ref (ad s))) (hlink : Cond.fieldLink RX13 idx RX13 (TX13 k).2.1 (TX13 k).2.2.1 ∈ lwG) (hc : (TX13 k).1 = RX13) (d : decode cc pc = .ok (.getfield idx, 3)) (K : T X (Ym cy ad G A nL Q) kp a b (pc + 3) L (.ref (ad s) :: st) σ r) : T X (Ym cy ad G A nL Q) kp a b pc L (.ref (ad 0) :: st) σ r := fun o h hk2 H locs ls hP hD hS hw hl => by
  exact va_get (ci := 14) (q0 := 0) C.1 C.2.1 (Ts := lwG) C.2.2.2.2.1 inX13 C.2.2.2.1 C.2.2.2.2.2.1 hP rfl rfl k hk (C.2.2.2.2.1 _ hlink) (by rw [hc]; exact fun _ h9 => h9) (hfs σ) d (K o h hk2 H locs ls hP hD hS hw hl)
theorem Tm_put (C : Cx X (Ym cy ad G A nL Q) cc RX13 ret Rm (tym cy)) {idx : Nat} {ty : FieldType} {v : Int} (s : Nat) (hs : isF s) (hv : rng v) (hlink : Cond.fieldLink RX13 idx RX13 (TX13 (mfk s)).2.1 (TX13 (mfk s)).2.2.1 ∈ lwG) (hty : parseFieldDescriptor (TX13 (mfk s)).2.2.1 = some ty) (hn : narrow ty (vi v) = vi v) (hf : fits ty (vi v) = true) (d : decode cc pc = .ok (.putfield idx, 3)) (K : T X (Ym cy ad G A nL Q) kp a b (pc + 3) L st (upm σ s 0 v) r) : T X (Ym cy ad G A nL Q) kp a b pc L (vi v :: .ref (ad 0) :: st) σ r := fun o h hk H locs ls hP hD hS hw hl => by
  obtain ⟨f1, f2, f3, f4⟩ := mfs_at (ad := ad) (σ := σ) hs
  refine va_put (ci := 14) (q0 := 0) C.1 C.2.1 (Ts := lwG) C.2.2.2.2.1 inX13 tyX13 tyX13_ok nmX13 C.2.2.2.1 C.2.2.2.2.2.1 hP hD hS rfl rfl (mfk s) f2 (C.2.2.2.2.1 _ hlink) (by rw [f4]; exact fun _ h9 => h9) f3 hty hn hf f2 d (fun H1 locs1 hP1 hD1 hS1 => ?_)
  rw [wlm_set_f hs] at hP1 hD1
  exact K o h hk H1 locs1 ls hP1 hD1 hS1 (wfm_up hw hv s 0) hl
theorem Tm_rng {s i : Nat} (K : rng (σ s i) → T X (Ym cy ad G A nL Q) kp a b pc L st σ r) : T X (Ym cy ad G A nL Q) kp a b pc L st σ r := fun o h hk H locs ls hP hD hS hw hl => K (hw s i) o h hk H locs ls hP hD hS hw hl
theorem rcm {cy : ClassId} {ad : Nat → Nat} {σ : Sm} : va_Rc (wlm cy ad σ) (ad 0) RX13 := ⟨0, 14, _, TX13, 21, rfl, rfl⟩
theorem fit_I (z : Int) : fits .int (vi z) = true := rfl
theorem fit_Z {z : Int} (h : bit z) : fits .boolean (vi z) = true := by rcases h with rfl | rfl <;> rfl
end MR
