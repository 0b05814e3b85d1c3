/-! the builder (role 390) and its bytes (role 391; their address is σ 390 0, their number σ 390 9) -/
section BM
variable {O : Type} {X : vjX} {kp : O → Prop} {cc : ByteArray} {own : String} {ret : Option FieldType} {Rm : Room} {a b pc : Nat} {L L' : List (Nat × Value)} {st : List Value} {σ : Sm} {cy : Nat → ClassId} {ad : Nat → Nat} {E : Nat → Nat → Nat} {G : va_G} {A : Nat → Prop} {nL : Nat} {Q : State → Prop} {rr : Option O}
theorem wlc_390 : (wlc cy ad E σ)[390]? = some (ad 390, .inr (1, [.ref (σ 390 0).toNat, vi (σ 390 1), vi (σ 390 2), vi (σ 390 3)])) := by
  rw [wlc_at (by decide)]; rfl
theorem wlc_391 : (wlc cy ad E σ)[391]? = some ((σ 390 0).toNat, .inl (cy 7, (σ 390 9).toNat, .inl (fun j => Int32.ofInt (σ 391 j)))) := by
  unfold wlc
  rw [List.getElem?_append_right (by simp)]
  simp
theorem kd_390 : kd 390 = 40 := by decide
theorem wlc_s390 {k : Nat} {v : Int} (hk : k = 1 ∨ k = 2 ∨ k = 3) : (wlc cy ad E σ).set 390 (ad 390, .inr (1, [.ref (σ 390 0).toNat, vi (σ 390 1), vi (σ 390 2), vi (σ 390 3)].set k (vi v))) = wlc cy ad E (upm σ 390 k v) := by
  apply List.ext_getElem?
  intro j
  by_cases hj : j = 390
  · subst hj
    rw [List.getElem?_set_self (by rw [wlc_len]; decide), wlc_390]
    rcases hk with rfl | rfl | rfl <;> simp [upm]
  · rw [List.getElem?_set_ne (fun e => hj e.symm)]
    by_cases h1 : j < 391
    · rw [wlc_at h1, wlc_at h1, upm_ne hj]
    · by_cases h2 : j = 391
      · subst h2
        rw [wlc_391, wlc_391]
        rcases hk with rfl | rfl | rfl <;> simp [upm]
      · rw [List.getElem?_eq_none (by rw [wlc_len]; omega), List.getElem?_eq_none (by rw [wlc_len]; omega)]
theorem wlc_s391 {k : Nat} {v : Int} : (wlc cy ad E σ).set 391 ((σ 390 0).toNat, .inl (cy 7, (σ 390 9).toNat, .inl (upd (fun j => Int32.ofInt (σ 391 j)) k (Int32.ofInt v)))) = wlc cy ad E (upm σ 391 k v) := by
  apply List.ext_getElem?
  intro j
  by_cases hj : j = 391
  · subst hj
    rw [List.getElem?_set_self (by rw [wlc_len]; decide), wlc_391]
    have : (fun j => Int32.ofInt (upm σ 391 k v 391 j)) = upd (fun j => Int32.ofInt (σ 391 j)) k (Int32.ofInt v) := by
      funext j
      by_cases h : j = k
      · subst h; simp [upm, upd]
      · simp [upm, upd, h]
    rw [this]
    simp [upm]
  · rw [List.getElem?_set_ne (fun e => hj e.symm)]
    by_cases h1 : j < 391
    · rw [wlc_at h1, wlc_at h1, upm_ne (by omega)]
    · rw [List.getElem?_eq_none (by rw [wlc_len]; omega), List.getElem?_eq_none (by rw [wlc_len]; omega)]
theorem Tb_get (C : Cx X (Yc cy ad E G A nL Q) cc own ret Rm (tyc cy)) {idx : Nat} (k : Nat) {v : Value} (hk : k < 4) (hv : [Value.ref (σ 390 0).toNat, vi (σ 390 1), vi (σ 390 2), vi (σ 390 3)][k]? = some v) (hin : ∀ w ∈ u_ws RJ4 TJ4 4, w ∈ lwG) (hlink : Cond.fieldLink own idx (TJ4 k).1 (TJ4 k).2.1 (TJ4 k).2.2.1 ∈ lwG) (d : decode cc pc = .ok (.getfield idx, 3)) (K0 : T X (Yc cy ad E G A nL Q) kp a b (pc + 3) L (v :: st) σ rr) : T X (Yc cy ad E G A nL Q) kp a b pc L (.ref (ad 390) :: st) σ rr := fun o h hk2 H locs ls hP hD hS hw hl =>
  va_get (ci := 1) (q0 := 390) C.1 C.2.1 (Ts := lwG) C.2.2.2.2.1 hin C.2.2.2.1 C.2.2.2.2.2.1 hP wlc_390 rfl k hk (C.2.2.2.2.1 _ hlink) (fun _ h9 => h9) hv d (K0 o h hk2 H locs ls hP hD hS hw hl)
theorem Tb_put (C : Cx X (Yc cy ad E G A nL Q) cc own ret Rm (tyc cy)) {idx : Nat} {ty : FieldType} {v : Int} (k : Nat) (hk : k = 1 ∨ k = 2 ∨ k = 3) (hin : ∀ w ∈ u_ws RJ4 TJ4 4, w ∈ lwG) (hfin : (TJ4 k).2.2.2 = false) (hlink : Cond.fieldLink own idx (TJ4 k).1 (TJ4 k).2.1 (TJ4 k).2.2.1 ∈ lwG) (hty : parseFieldDescriptor (TJ4 k).2.2.1 = some ty) (hn : narrow ty (vi v) = vi v) (hf : fits ty (vi v) = true) (d : decode cc pc = .ok (.putfield idx, 3)) (K0 : T X (Yc cy ad E G A nL Q) kp a b (pc + 3) L st (upm σ 390 k v) rr) : T X (Yc cy ad E G A nL Q) kp a b pc L (vi v :: .ref (ad 390) :: st) σ rr := fun o h hk2 H locs ls hP hD hS hw hl => by
  refine va_put (ci := 1) (q0 := 390) C.1 C.2.1 (Ts := lwG) C.2.2.2.2.1 hin tyJ4 tyJ4_ok nmJ4 C.2.2.2.1 C.2.2.2.2.2.1 hP hD hS wlc_390 rfl k (by omega) (C.2.2.2.2.1 _ hlink) (fun _ h9 => h9) hfin hty hn hf (by simp; omega) d (fun H1 locs1 hP1 hD1 hS1 => ?_)
  replace hP1 : va_P G vwCl (wlc cy ad E (upm σ 390 k v)) H1 := by rw [← wlc_s390 hk]; exact hP1
  replace hD1 : va_D A (wlc cy ad E (upm σ 390 k v)) := by rw [← wlc_s390 hk]; exact hD1
  exact K0 o h hk2 H1 locs1 ls hP1 hD1 hS1 (wfc_up hw (by rw [kd_390]; exact trivial)) hl
theorem Tb_len (C : Cx X (Yc cy ad E G A nL Q) cc own ret Rm (tyc cy)) (hn : 0 ≤ σ 390 9) (d : decode cc pc = .ok (.arraylength, 1)) (K0 : T X (Yc cy ad E G A nL Q) kp a b (pc + 1) L (vi (σ 390 9) :: st) σ rr) : T X (Yc cy ad E G A nL Q) kp a b pc L (.ref (σ 390 0).toNat :: st) σ rr := fun o h hk H locs ls hP hD hS hw hl => by
  refine va_alen (q0 := 391) (t0 := 7) C.1 C.2.1 C.2.2.2.2.2.1 hP wlc_391 (ty := .byte) rfl (v := Int32.ofInt (σ 390 9)) ?_ d (K0 o h hk H locs ls hP hD hS hw hl)
  show Int32.ofNat (σ 390 9).toNat = _
  rw [← ofInt_nat, Int.toNat_of_nonneg hn]
theorem Tb_ald (C : Cx X (Yc cy ad E G A nL Q) cc own ret Rm (tyc cy)) {i : Int} (k : Nat) (hi : 0 ≤ i ∧ i < σ 390 9) (hb : σ 390 9 ≤ 2147483647) (hk0 : i.toNat = k) (d : decode cc pc = .ok (.baload, 1)) (K0 : rng (σ 391 k) → T X (Yc cy ad E G A nL Q) kp a b (pc + 1) L (vi (σ 391 k) :: st) σ rr) : T X (Yc cy ad E G A nL Q) kp a b pc L (vi i :: .ref (σ 390 0).toNat :: st) σ rr := fun o h hk H locs ls hP hD hS hw hl => by
  have hi2 : 0 ≤ i ∧ i < (((σ 390 9).toNat : Nat) : Int) := by omega
  have hle : (σ 390 9).toNat ≤ 2147483647 := by omega
  refine va_bald (q0 := 391) (t0 := 7) C.1 C.2.1 C.2.2.2.2.2.1 hP wlc_391 rfl (ix_in hi2 hle) d ?_
  rw [ix_nat hi2 hle, hk0]
  exact K0 (hw 391 k) o h hk H locs ls hP hD hS hw hl
theorem byt_ok {v : Int} (h : 0 ≤ v ∧ v < 128) : vp_nar .byte (Int32.ofInt v) = Int32.ofInt v := by
  have : ∀ n : Nat, n < 128 → vp_nar .byte (Int32.ofInt (n : Int)) = Int32.ofInt (n : Int) := by decide +kernel
  obtain ⟨n, rfl⟩ := Int.eq_ofNat_of_zero_le h.1
  exact this n (by omega)
theorem Tb_ast (C : Cx X (Yc cy ad E G A nL Q) cc own ret Rm (tyc cy)) {i v : Int} (k : Nat) (hi : 0 ≤ i ∧ i < σ 390 9) (hb : σ 390 9 ≤ 2147483647) (hk0 : i.toNat = k) (hv : 0 ≤ v ∧ v < 128) (d : decode cc pc = .ok (.bastore, 1)) (K0 : T X (Yc cy ad E G A nL Q) kp a b (pc + 1) L st (upm σ 391 k v) rr) : T X (Yc cy ad E G A nL Q) kp a b pc L (vi v :: vi i :: .ref (σ 390 0).toNat :: st) σ rr := fun o h hk H locs ls hP hD hS hw hl => by
  have hi2 : 0 ≤ i ∧ i < (((σ 390 9).toNat : Nat) : Int) := by omega
  have hle : (σ 390 9).toNat ≤ 2147483647 := by omega
  refine va_bast (q0 := 391) (t0 := 7) C.1 C.2.1 C.2.2.2.2.2.1 hP hD hS wlc_391 rfl (ix_in hi2 hle) d (fun H1 locs1 hP1 hD1 hS1 => ?_)
  rw [ix_nat hi2 hle, hk0, byt_ok hv] at hP1 hD1
  replace hP1 : va_P G vwCl (wlc cy ad E (upm σ 391 k v)) H1 := by rw [← wlc_s391]; exact hP1
  replace hD1 : va_D A (wlc cy ad E (upm σ 391 k v)) := by rw [← wlc_s391]; exact hD1
  exact K0 o h hk H1 locs1 ls hP1 hD1 hS1 (wfc_up hw (by show rng v; unfold rng; omega)) hl
end BM
