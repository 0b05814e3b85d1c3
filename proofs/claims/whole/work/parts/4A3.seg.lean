/-! the world that the constructors leave is the class's world at its first state -/
def s0 (ab : Nat) : Sm := fun r i => if kd r = 7 then (if i = 0 ∨ i = 2 ∨ i = 4 then 1 else 0) else if kd r = 28 then (if i < 16 then (r : Int) + 1 + i else (r : Int) + 1) else if kd r = 30 then 6 else if kd r = 12 then (if i = 10 ∨ i = 11 then -1 else 0) else if kd r = 40 then (if i = 0 then (ab : Int) else if i = 9 then 16 else 0) else 0
def XQ (G : va_G) (x y : Nat × va_E) : Prop := x.1 = y.1 ∧ ∀ H, va_at G vwCl x H → va_at G vwCl y H
def WQ (G : va_G) (w w' : va_W) : Prop := w.map Prod.fst = w'.map Prod.fst ∧ ∀ H, va_P G vwCl w H → va_P G vwCl w' H
section WQS
variable {G : va_G} {w w' v v' : va_W} {x y : Nat × va_E}
theorem XQ.of (h : x = y) : XQ G x y := by subst h; exact ⟨rfl, fun _ h => h⟩
theorem WQ.rf : WQ G w w := ⟨rfl, fun _ h => h⟩
theorem WQ.nil : WQ G [] [] := WQ.rf
theorem WQ.cons (h : XQ G x y) (t : WQ G w w') : WQ G (x :: w) (y :: w') := by
  refine ⟨by rw [List.map_cons, List.map_cons, h.1, t.1], fun H hP k q hq => ?_⟩
  cases k with
  | zero =>
    have e : y = q := Option.some.inj hq
    rw [← e]
    exact h.2 H (hP 0 x rfl)
  | succ k => exact t.2 H (fun j z hz => hP (j + 1) z hz) k q hq
theorem WQ.app (h : WQ G w w') (t : WQ G v v') : WQ G (w ++ v) (w' ++ v') := by
  refine ⟨by rw [List.map_append, List.map_append, h.1, t.1], fun H hP => ?_⟩
  refine va_P.app (h.2 H (va_P_left hP)) (t.2 H (fun k q hq => hP (w.length + k) q ?_))
  rw [List.getElem?_append_right (Nat.le_add_right _ _), Nat.add_sub_cancel_left]
  exact hq
theorem WQ.trans {u : va_W} (h : WQ G w w') (t : WQ G w' u) : WQ G w u := ⟨h.1.trans t.1, fun H p => t.2 H (h.2 H p)⟩
theorem WQ.dis {A : Nat → Prop} (h : WQ G w w') (hD : va_D A w) : va_D A w' := by
  rw [va_D_iff] at hD ⊢
  refine ⟨by rw [← h.1]; exact hD.1, fun q hq => ?_⟩
  have h1 : q.1 ∈ w'.map Prod.fst := List.mem_map.mpr ⟨q, hq, rfl⟩
  rw [← h.1] at h1
  obtain ⟨p, hp, e⟩ := List.mem_map.mp h1
  rw [← e]
  exact hD.2 p hp
theorem XQ.arr {q : Nat} {c : ClassId} {n : Nat} {f g : Nat → Option Nat} (h : ∀ j, j < n → f j = g j) : XQ G (q, .inl (c, n, qA f)) (q, .inl (c, n, qA g)) := by
  refine ⟨rfl, fun H hx => ?_⟩
  have e : vp_cell c (n, qA f) = vp_cell c (n, qA g) := by
    rw [vp_cell_q, vp_cell_q]
    unfold arrV
    congr 2
    funext j
    show va_rf (f j.1) = va_rf (g j.1)
    rw [h j.1 j.2]
  show H[q]? = some (vp_cell c (n, qA g))
  rw [← e]
  exact hx
theorem J_wq {X : vjX} {A : Nat → Prop} {nL : Nat} {Q : State → Prop} {S : Type} {wl : S → va_W} {wf : S → Prop} {σ : S} {a b pc : Nat} {L : List (Nat × Value)} {st : List Value} (h : WQ G w (wl σ)) (hwf : wf σ) (K : J X (wl, wf, G, A, nL, Q) a b pc L st σ) : J X (YE G A nL Q) a b pc L st w := fun H locs ls hP hD hS hw hl => K H locs ls (h.2 H hP) (h.dis hD) hS hwf hl
end WQS
def sg (F : Nat → Nat × va_E) (b n : Nat) : va_W := (List.range n).map (fun j => F (b + j))
theorem sg_app (F : Nat → Nat × va_E) (b n m : Nat) : sg F b (n + m) = sg F b n ++ sg F (b + n) m := by
  unfold sg
  rw [List.range_add, List.map_append, List.map_map]
  congr 1
  apply List.map_congr_left
  intro j _
  show F (b + (n + j)) = F (b + n + j)
  rw [Nat.add_assoc]
section SEG
variable {G : va_G} {cy : Nat → ClassId} {ad : Nat → Nat} {E : Nat → Nat → Nat} {ab r : Nat}
def fF (cy : Nat → ClassId) (ad : Nat → Nat) (E : Nat → Nat → Nat) (ab : Nat) (r : Nat) : Nat × va_E := (ad r, entK cy ad E (kd r) r (s0 ab r))
theorem fF_k {K p : Nat} (hk : kd r = K) (ha : ad r = p) (h : K ≠ 7 ∧ K ≠ 28 ∧ K ≠ 30 ∧ K ≠ 12 ∧ K ≠ 40) : fF cy ad E ab r = (p, entK cy ad E K r (fun _ => 0)) := by
  have e : s0 ab r = fun _ => 0 := by
    funext i
    unfold s0
    rw [hk, if_neg h.1, if_neg h.2.1, if_neg h.2.2.1, if_neg h.2.2.2.1, if_neg h.2.2.2.2]
  unfold fF
  rw [e, hk, ha]
theorem fF_7 {p p1 : Nat} (hk : kd r = 7) (h0 : ad r = p) (h1 : ad (r + 1) = p1) : (p, (.inr (8, [vi 1, vi 0, vi 1, vi 0, vi 1, vi 0, vi 0, .ref p1]) : va_E)) = fF cy ad E ab r := by
  have e : s0 ab r = fun i => if i = 0 ∨ i = 2 ∨ i = 4 then 1 else 0 := by
    funext i
    unfold s0
    rw [if_pos hk]
  unfold fF
  rw [e, hk, h0, ← h1]
  rfl
theorem fF_28 {p : Nat} (hk : kd r = 28) (h0 : ad r = p) {f : Nat → Option Nat} (hf : ∀ j, j < 16 → f j = some (ad (r + 1 + j))) : XQ G (p, .inl (cy 4, 16, qA f)) (fF cy ad E ab r) := by
  have e : fF cy ad E ab r = (p, .inl (cy 4, 16, qA (fun j => some (ad (s0 ab r j).toNat)))) := by
    unfold fF
    rw [hk, h0]
    rfl
  rw [e]
  refine XQ.arr (fun j hj => ?_)
  rw [hf j hj]
  have : (s0 ab r j).toNat = r + 1 + j := by
    unfold s0
    rw [if_neg (by omega), if_pos hk, if_pos hj]; omega
  rw [this]
theorem fF_27 {p : Nat} (hk : kd r = 27) (h0 : ad r = p) {f : Nat → Option Nat} (hf : ∀ j, j < 5 → f j = some (ad (r + 19 + 2 * j))) : XQ G (p, .inl (cy 3, 5, qA f)) (fF cy ad E ab r) := by
  rw [fF_k hk h0 (by decide)]
  exact XQ.arr hf
theorem fF_29 {p : Nat} (hk : kd r = 29) (h0 : ad r = p) {f : Nat → Option Nat} (hf : ∀ j, j < 8 → f j = some (ad (102 + 33 * j))) : XQ G (p, .inl (cy 5, 8, qA f)) (fF cy ad E ab r) := by
  rw [fF_k hk h0 (by decide)]
  exact XQ.arr hf
theorem fF_30 {p : Nat} (hk : kd r = 30) (h0 : ad r = p) {f : Nat → Option Nat} (hf : ∀ j, j < 16 → f j = some (E 1 6)) : XQ G (p, .inl (cy 6, 16, qA f)) (fF cy ad E ab r) := by
  have e : fF cy ad E ab r = (p, .inl (cy 6, 16, qA (fun j => some (E 1 6)))) := by
    have e2 : s0 ab r = fun _ => 6 := by
      funext i
      unfold s0
      rw [if_neg (by omega), if_neg (by omega), if_pos hk]
    unfold fF
    rw [e2, hk, h0]
    rfl
  rw [e]
  exact XQ.arr hf
/-- the addresses of a network, role by role -/
def nad (d : ND) (j : Nat) : Nat := ([d.1, d.2.1, d.2.2.1, d.2.2.2.1, d.2.2.2.2.1, d.2.2.2.2.2.1, d.2.2.2.2.2.2.1] ++ (d.2.2.2.2.2.2.2.1 ++ d.2.2.2.2.2.2.2.2.flatMap (fun p => [p.1, p.2]))).getD j 0
theorem len16 {T : Type} {l : List T} (h : l.length = 16) : ∃ a0 a1 a2 a3 a4 a5 a6 a7 a8 a9 a10 a11 a12 a13 a14 a15 : T, l = [a0, a1, a2, a3, a4, a5, a6, a7, a8, a9, a10, a11, a12, a13, a14, a15] := by
  match l, h with
  | [a0, a1, a2, a3, a4, a5, a6, a7, a8, a9, a10, a11, a12, a13, a14, a15], _ => exact ⟨_, _, _, _, _, _, _, _, _, _, _, _, _, _, _, _, rfl⟩
theorem len5 {T : Type} {l : List T} (h : l.length = 5) : ∃ a0 a1 a2 a3 a4 : T, l = [a0, a1, a2, a3, a4] := by
  match l, h with
  | [a0, a1, a2, a3, a4], _ => exact ⟨_, _, _, _, _, rfl⟩
theorem len8 {T : Type} {l : List T} (h : l.length = 8) : ∃ a0 a1 a2 a3 a4 a5 a6 a7 : T, l = [a0, a1, a2, a3, a4, a5, a6, a7] := by
  match l, h with
  | [a0, a1, a2, a3, a4, a5, a6, a7], _ => exact ⟨_, _, _, _, _, _, _, _, rfl⟩
theorem wq8 {d : ND} (hg : g8 d) {b : Nat} (hb : ∀ j, j < 33 → ad (b + j) = nad d j) (hk : ∀ j, j < 33 → kd (b + j) = kdN.getD j 99) : WQ G (w8 cy d) (sg (fF cy ad E ab) b 33) := by
  obtain ⟨q, r1, r2, r3, r4, t, r5, as, ls⟩ := d
  obtain ⟨h1, h2⟩ := hg
  obtain ⟨a0, a1, a2, a3, a4, a5, a6, a7, a8, a9, a10, a11, a12, a13, a14, a15, e1⟩ := len16 (show as.length = 16 from h1)
  obtain ⟨l0, l1, l2, l3, l4, e2⟩ := len5 (show ls.length = 5 from h2)
  subst e1; subst e2
  have b0 : ad (b + 0) = q := hb 0 (by decide)
  have k0 : kd (b + 0) = 8 := hk 0 (by decide)
  have b1 : ad (b + 1) = r1 := hb 1 (by decide)
  have k1 : kd (b + 1) = 20 := hk 1 (by decide)
  have b2 : ad (b + 2) = r2 := hb 2 (by decide)
  have k2 : kd (b + 2) = 25 := hk 2 (by decide)
  have b3 : ad (b + 3) = r3 := hb 3 (by decide)
  have k3 : kd (b + 3) = 21 := hk 3 (by decide)
  have b4 : ad (b + 4) = r4 := hb 4 (by decide)
  have k4 : kd (b + 4) = 27 := hk 4 (by decide)
  have b5 : ad (b + 5) = t := hb 5 (by decide)
  have k5 : kd (b + 5) = 11 := hk 5 (by decide)
  have b6 : ad (b + 6) = r5 := hb 6 (by decide)
  have k6 : kd (b + 6) = 28 := hk 6 (by decide)
  have b7 : ad (b + 7) = a0 := hb 7 (by decide)
  have k7 : kd (b + 7) = 10 := hk 7 (by decide)
  have b8 : ad (b + 8) = a1 := hb 8 (by decide)
  have k8 : kd (b + 8) = 10 := hk 8 (by decide)
  have b9 : ad (b + 9) = a2 := hb 9 (by decide)
  have k9 : kd (b + 9) = 10 := hk 9 (by decide)
  have b10 : ad (b + 10) = a3 := hb 10 (by decide)
  have k10 : kd (b + 10) = 10 := hk 10 (by decide)
  have b11 : ad (b + 11) = a4 := hb 11 (by decide)
  have k11 : kd (b + 11) = 10 := hk 11 (by decide)
  have b12 : ad (b + 12) = a5 := hb 12 (by decide)
  have k12 : kd (b + 12) = 10 := hk 12 (by decide)
  have b13 : ad (b + 13) = a6 := hb 13 (by decide)
  have k13 : kd (b + 13) = 10 := hk 13 (by decide)
  have b14 : ad (b + 14) = a7 := hb 14 (by decide)
  have k14 : kd (b + 14) = 10 := hk 14 (by decide)
  have b15 : ad (b + 15) = a8 := hb 15 (by decide)
  have k15 : kd (b + 15) = 10 := hk 15 (by decide)
  have b16 : ad (b + 16) = a9 := hb 16 (by decide)
  have k16 : kd (b + 16) = 10 := hk 16 (by decide)
  have b17 : ad (b + 17) = a10 := hb 17 (by decide)
  have k17 : kd (b + 17) = 10 := hk 17 (by decide)
  have b18 : ad (b + 18) = a11 := hb 18 (by decide)
  have k18 : kd (b + 18) = 10 := hk 18 (by decide)
  have b19 : ad (b + 19) = a12 := hb 19 (by decide)
  have k19 : kd (b + 19) = 10 := hk 19 (by decide)
  have b20 : ad (b + 20) = a13 := hb 20 (by decide)
  have k20 : kd (b + 20) = 10 := hk 20 (by decide)
  have b21 : ad (b + 21) = a14 := hb 21 (by decide)
  have k21 : kd (b + 21) = 10 := hk 21 (by decide)
  have b22 : ad (b + 22) = a15 := hb 22 (by decide)
  have k22 : kd (b + 22) = 10 := hk 22 (by decide)
  have b23 : ad (b + 23) = l0.1 := hb 23 (by decide)
  have k23 : kd (b + 23) = 7 := hk 23 (by decide)
  have b24 : ad (b + 24) = l0.2 := hb 24 (by decide)
  have k24 : kd (b + 24) = 22 := hk 24 (by decide)
  have b25 : ad (b + 25) = l1.1 := hb 25 (by decide)
  have k25 : kd (b + 25) = 7 := hk 25 (by decide)
  have b26 : ad (b + 26) = l1.2 := hb 26 (by decide)
  have k26 : kd (b + 26) = 22 := hk 26 (by decide)
  have b27 : ad (b + 27) = l2.1 := hb 27 (by decide)
  have k27 : kd (b + 27) = 7 := hk 27 (by decide)
  have b28 : ad (b + 28) = l2.2 := hb 28 (by decide)
  have k28 : kd (b + 28) = 22 := hk 28 (by decide)
  have b29 : ad (b + 29) = l3.1 := hb 29 (by decide)
  have k29 : kd (b + 29) = 7 := hk 29 (by decide)
  have b30 : ad (b + 30) = l3.2 := hb 30 (by decide)
  have k30 : kd (b + 30) = 22 := hk 30 (by decide)
  have b31 : ad (b + 31) = l4.1 := hb 31 (by decide)
  have k31 : kd (b + 31) = 7 := hk 31 (by decide)
  have b32 : ad (b + 32) = l4.2 := hb 32 (by decide)
  have k32 : kd (b + 32) = 22 := hk 32 (by decide)
  clear hb hk h1 h2
  have x0 : XQ G (q, (.inr (9, [vi 0, vi 0, vi 0, .ref r1, .ref r2, vi 0, .ref r3, vi 0, .ref r4, .ref t]) : va_E)) (fF cy ad E ab (b + 0)) := (XQ.of (by rw [fF_k k0 b0 (by decide), ← b1, ← b2, ← b3, ← b4, ← b5]; rfl))
  have x1 : XQ G (r1, (.inl (cy 0, 10, .inl (fun _ => 0)) : va_E)) (fF cy ad E ab (b + 1)) := (XQ.of (by rw [fF_k k1 b1 (by decide)]; rfl))
  have x2 : XQ G (r2, (.inl (cy 1, 10, .inl (fun _ => 0)) : va_E)) (fF cy ad E ab (b + 2)) := (XQ.of (by rw [fF_k k2 b2 (by decide)]; rfl))
  have x3 : XQ G (r3, (.inl (cy 0, 100, .inl (fun _ => 0)) : va_E)) (fF cy ad E ab (b + 3)) := (XQ.of (by rw [fF_k k3 b3 (by decide)]; rfl))
  have x4 : XQ G (r4, (.inl (cy 3, 5, qA (fun j => (([l0, l1, l2, l3, l4] : List (Nat × Nat))[j]?).map Prod.fst)) : va_E)) (fF cy ad E ab (b + 4)) := (fF_27 k4 b4 (fun j hj => match j, hj with | 0, _ => (congrArg some b23).symm | 1, _ => (congrArg some b25).symm | 2, _ => (congrArg some b27).symm | 3, _ => (congrArg some b29).symm | 4, _ => (congrArg some b31).symm | n + 5, h => absurd h (by omega)))
  have x5 : XQ G (t, (.inr (12, [.ref r5, vi 0, vi 0, vi 0, vi 0, vi 0]) : va_E)) (fF cy ad E ab (b + 5)) := (XQ.of (by rw [fF_k k5 b5 (by decide), ← b6]; rfl))
  have x6 : XQ G (r5, (.inl (cy 4, 16, qA (fun j => (([a0, a1, a2, a3, a4, a5, a6, a7, a8, a9, a10, a11, a12, a13, a14, a15] : List Nat)[j]?).map id)) : va_E)) (fF cy ad E ab (b + 6)) := (fF_28 k6 b6 (fun j hj => match j, hj with | 0, _ => (congrArg some b7).symm | 1, _ => (congrArg some b8).symm | 2, _ => (congrArg some b9).symm | 3, _ => (congrArg some b10).symm | 4, _ => (congrArg some b11).symm | 5, _ => (congrArg some b12).symm | 6, _ => (congrArg some b13).symm | 7, _ => (congrArg some b14).symm | 8, _ => (congrArg some b15).symm | 9, _ => (congrArg some b16).symm | 10, _ => (congrArg some b17).symm | 11, _ => (congrArg some b18).symm | 12, _ => (congrArg some b19).symm | 13, _ => (congrArg some b20).symm | 14, _ => (congrArg some b21).symm | 15, _ => (congrArg some b22).symm | n + 16, h => absurd h (by omega)))
  have x7 : XQ G (tkE a0) (fF cy ad E ab (b + 7)) := (XQ.of (by rw [fF_k k7 b7 (by decide)]; rfl))
  have x8 : XQ G (tkE a1) (fF cy ad E ab (b + 8)) := (XQ.of (by rw [fF_k k8 b8 (by decide)]; rfl))
  have x9 : XQ G (tkE a2) (fF cy ad E ab (b + 9)) := (XQ.of (by rw [fF_k k9 b9 (by decide)]; rfl))
  have x10 : XQ G (tkE a3) (fF cy ad E ab (b + 10)) := (XQ.of (by rw [fF_k k10 b10 (by decide)]; rfl))
  have x11 : XQ G (tkE a4) (fF cy ad E ab (b + 11)) := (XQ.of (by rw [fF_k k11 b11 (by decide)]; rfl))
  have x12 : XQ G (tkE a5) (fF cy ad E ab (b + 12)) := (XQ.of (by rw [fF_k k12 b12 (by decide)]; rfl))
  have x13 : XQ G (tkE a6) (fF cy ad E ab (b + 13)) := (XQ.of (by rw [fF_k k13 b13 (by decide)]; rfl))
  have x14 : XQ G (tkE a7) (fF cy ad E ab (b + 14)) := (XQ.of (by rw [fF_k k14 b14 (by decide)]; rfl))
  have x15 : XQ G (tkE a8) (fF cy ad E ab (b + 15)) := (XQ.of (by rw [fF_k k15 b15 (by decide)]; rfl))
  have x16 : XQ G (tkE a9) (fF cy ad E ab (b + 16)) := (XQ.of (by rw [fF_k k16 b16 (by decide)]; rfl))
  have x17 : XQ G (tkE a10) (fF cy ad E ab (b + 17)) := (XQ.of (by rw [fF_k k17 b17 (by decide)]; rfl))
  have x18 : XQ G (tkE a11) (fF cy ad E ab (b + 18)) := (XQ.of (by rw [fF_k k18 b18 (by decide)]; rfl))
  have x19 : XQ G (tkE a12) (fF cy ad E ab (b + 19)) := (XQ.of (by rw [fF_k k19 b19 (by decide)]; rfl))
  have x20 : XQ G (tkE a13) (fF cy ad E ab (b + 20)) := (XQ.of (by rw [fF_k k20 b20 (by decide)]; rfl))
  have x21 : XQ G (tkE a14) (fF cy ad E ab (b + 21)) := (XQ.of (by rw [fF_k k21 b21 (by decide)]; rfl))
  have x22 : XQ G (tkE a15) (fF cy ad E ab (b + 22)) := (XQ.of (by rw [fF_k k22 b22 (by decide)]; rfl))
  have x23 : XQ G (l0.1, (.inr (8, [vi 1, vi 0, vi 1, vi 0, vi 1, vi 0, vi 0, .ref l0.2]) : va_E)) (fF cy ad E ab (b + 23)) := (XQ.of (fF_7 k23 b23 b24))
  have x24 : XQ G (l0.2, (.inl (cy 0, 6, .inl (fun _ => 0)) : va_E)) (fF cy ad E ab (b + 24)) := (XQ.of (by rw [fF_k k24 b24 (by decide)]; rfl))
  have x25 : XQ G (l1.1, (.inr (8, [vi 1, vi 0, vi 1, vi 0, vi 1, vi 0, vi 0, .ref l1.2]) : va_E)) (fF cy ad E ab (b + 25)) := (XQ.of (fF_7 k25 b25 b26))
  have x26 : XQ G (l1.2, (.inl (cy 0, 6, .inl (fun _ => 0)) : va_E)) (fF cy ad E ab (b + 26)) := (XQ.of (by rw [fF_k k26 b26 (by decide)]; rfl))
  have x27 : XQ G (l2.1, (.inr (8, [vi 1, vi 0, vi 1, vi 0, vi 1, vi 0, vi 0, .ref l2.2]) : va_E)) (fF cy ad E ab (b + 27)) := (XQ.of (fF_7 k27 b27 b28))
  have x28 : XQ G (l2.2, (.inl (cy 0, 6, .inl (fun _ => 0)) : va_E)) (fF cy ad E ab (b + 28)) := (XQ.of (by rw [fF_k k28 b28 (by decide)]; rfl))
  have x29 : XQ G (l3.1, (.inr (8, [vi 1, vi 0, vi 1, vi 0, vi 1, vi 0, vi 0, .ref l3.2]) : va_E)) (fF cy ad E ab (b + 29)) := (XQ.of (fF_7 k29 b29 b30))
  have x30 : XQ G (l3.2, (.inl (cy 0, 6, .inl (fun _ => 0)) : va_E)) (fF cy ad E ab (b + 30)) := (XQ.of (by rw [fF_k k30 b30 (by decide)]; rfl))
  have x31 : XQ G (l4.1, (.inr (8, [vi 1, vi 0, vi 1, vi 0, vi 1, vi 0, vi 0, .ref l4.2]) : va_E)) (fF cy ad E ab (b + 31)) := (XQ.of (fF_7 k31 b31 b32))
  have x32 : XQ G (l4.2, (.inl (cy 0, 6, .inl (fun _ => 0)) : va_E)) (fF cy ad E ab (b + 32)) := (XQ.of (by rw [fF_k k32 b32 (by decide)]; rfl))
  exact (WQ.cons x0 (WQ.cons x1 (WQ.cons x2 (WQ.cons x3 (WQ.cons x4 (WQ.cons x5 (WQ.cons x6 (WQ.cons x7 (WQ.cons x8 (WQ.cons x9 (WQ.cons x10 (WQ.cons x11 (WQ.cons x12 (WQ.cons x13 (WQ.cons x14 (WQ.cons x15 (WQ.cons x16 (WQ.cons x17 (WQ.cons x18 (WQ.cons x19 (WQ.cons x20 (WQ.cons x21 (WQ.cons x22 (WQ.cons x23 (WQ.cons x24 (WQ.cons x25 (WQ.cons x26 (WQ.cons x27 (WQ.cons x28 (WQ.cons x29 (WQ.cons x30 (WQ.cons x31 (WQ.cons x32 WQ.nil)))))))))))))))))))))))))))))))))
end SEG
