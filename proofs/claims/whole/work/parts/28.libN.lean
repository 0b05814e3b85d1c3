/-! longs, doubles, out and outD -/
theorem l_of {x : Int} (h : rng x) : (Int32.ofInt x).toInt64 = Int64.ofInt x := by
  apply Int64.toInt_inj.mp
  rw [Int32.toInt_toInt64, rng_toInt h, Int64.toInt_ofInt_of_le (by unfold rng at h; omega) (by unfold rng at h; omega)]
def lcm (x y : Int) : Int := if y < x then 1 else if x = y then 0 else -1
theorem lcm_rng (x y : Int) : rng (lcm x y) := by unfold lcm; repeat' split
                                                  all_goals exact ⟨by decide, by decide⟩
theorem lcm_eq {x y : Int} : lcm x y = 0 ↔ x = y := by unfold lcm; repeat' split
                                                       all_goals omega
theorem lcm_ok {x y : Int} (hx : rng x) (hy : rng y) : lg_cmp (Int64.ofInt x) (Int64.ofInt y) = Int32.ofInt (lcm x y) := by
  have tx : (Int64.ofInt x).toInt = x := Int64.toInt_ofInt_of_le (by unfold rng at hx; omega) (by unfold rng at hx; omega)
  have ty : (Int64.ofInt y).toInt = y := Int64.toInt_ofInt_of_le (by unfold rng at hy; omega) (by unfold rng at hy; omega)
  have h1 : Int64.ofInt y < Int64.ofInt x ↔ y < x := by rw [Int64.lt_iff_toInt_lt, tx, ty]
  have h2 : Int64.ofInt x = Int64.ofInt y ↔ x = y := by rw [← Int64.toInt_inj, tx, ty]
  unfold lg_cmp lcm
  by_cases a : y < x
  · simp [h1.mpr a, a]
  · by_cases b : x = y
    · subst b; simp
    · have a2 : ¬ Int64.ofInt y < Int64.ofInt x := fun q => a (h1.mp q)
      have b2 : ¬ Int64.ofInt x = Int64.ofInt y := fun q => b (h2.mp q)
      simp [a, b, a2, b2]
def dcm (x y : UInt64) (op : CmpOp) : Int := (Op.cmpValue (FP.dcmp x y) op).toInt
theorem dcm_rng (x y : UInt64) (op : CmpOp) : rng (dcm x y op) := ⟨Int32.le_toInt _, by have := Int32.toInt_lt (Op.cmpValue (FP.dcmp x y) op); unfold dcm; omega⟩
section LN
variable {O : Type} {X : vjX} {kp : O → Prop} {cc : ByteArray} {own : String} {ret : Option FieldType} {Rm : Room} {a b pc : Nat} {L L' : List (Nat × Value)} {st : List Value} {σ : SL} {cy : Nat → ClassId} {adc adm : Nat → Nat} {E : Nat → Nat → Nat} {G : va_G} {A : Nat → Prop} {nL : Nat} {Q : State → Prop} {r : Option O}
theorem wlL_len : (wlc cy adc E σ.1 ++ wlm (cy 0) adm σ.2.1).length = 403 := by rw [List.length_append, wlc_len]; rfl
theorem wlL_o : (wlL cy adc adm E σ)[403]? = some (adm 11, .inl (cy 8, 1, .inr (.inl (opL σ.2.2.1)))) := by
  unfold wlL
  rw [← List.append_assoc, List.getElem?_append_right (by rw [wlL_len]; exact Nat.le_refl _), wlL_len]
  rfl
theorem wlL_d : (wlL cy adc adm E σ)[404]? = some (adm 12, .inl (cy 9, 1, .inr (.inr (.inr (.inl (opD σ.2.2.2)))))) := by
  unfold wlL
  rw [← List.append_assoc, List.getElem?_append_right (by rw [wlL_len]; decide), wlL_len]
  rfl
theorem wlL_so {v : Int} : (wlL cy adc adm E σ).set 403 (adm 11, .inl (cy 8, 1, .inr (.inl (opL v)))) = wlL cy adc adm E (σ.1, σ.2.1, v, σ.2.2.2) := by
  unfold wlL
  rw [← List.append_assoc, ← List.append_assoc, List.set_append_right _ _ (by rw [wlL_len]; exact Nat.le_refl _), wlL_len]
  rfl
theorem wlL_sd {v : UInt64} : (wlL cy adc adm E σ).set 404 (adm 12, .inl (cy 9, 1, .inr (.inr (.inr (.inl (opD v)))))) = wlL cy adc adm E (σ.1, σ.2.1, σ.2.2.1, v) := by
  unfold wlL
  rw [← List.append_assoc, ← List.append_assoc, List.set_append_right _ _ (by rw [wlL_len]; decide), wlL_len]
  rfl
theorem T_lconst (C : Cx X (YL cy adc adm E G A nL Q) cc own ret Rm (tyL cy)) {n : Fin 2} (z : Int) (hz : Int64.ofNat (n : Nat) = Int64.ofInt z) (d : decode cc pc = .ok (.lconst n, 1)) (K : T X (YL cy adc adm E G A nL Q) kp a b (pc + 1) L (.long (Int64.ofInt z) :: st) σ r) : T X (YL cy adc adm E G A nL Q) kp a b pc L st σ r := fun o h hk H locs ls hP hD hS hw hl => lv_lconst C.1 C.2.1 d hz (K o h hk H locs ls hP hD hS hw hl)
theorem T_i2l (C : Cx X (YL cy adc adm E G A nL Q) cc own ret Rm (tyL cy)) {x : Int} (hx : rng x) (d : decode cc pc = .ok (.i2l, 1)) (K : T X (YL cy adc adm E G A nL Q) kp a b (pc + 1) L (.long (Int64.ofInt x) :: st) σ r) : T X (YL cy adc adm E G A nL Q) kp a b pc L (vi x :: st) σ r := fun o h hk H locs ls hP hD hS hw hl => lv_i2l C.1 C.2.1 d (l_of hx) (K o h hk H locs ls hP hD hS hw hl)
theorem T_lcmp (C : Cx X (YL cy adc adm E G A nL Q) cc own ret Rm (tyL cy)) {x y : Int} (hx : rng x) (hy : rng y) (d : decode cc pc = .ok (.lcmp, 1)) (K : T X (YL cy adc adm E G A nL Q) kp a b (pc + 1) L (vi (lcm x y) :: st) σ r) : T X (YL cy adc adm E G A nL Q) kp a b pc L (.long (Int64.ofInt y) :: .long (Int64.ofInt x) :: st) σ r := fun o h hk H locs ls hP hD hS hw hl => W.lcmp C.1 C.2.1 d (by rw [lcm_ok hx hy]; exact K o h hk H locs ls hP hD hS hw hl)
theorem T_dcmp (C : Cx X (YL cy adc adm E G A nL Q) cc own ret Rm (tyL cy)) {x y : UInt64} {op : CmpOp} (d : decode cc pc = .ok (.dcmp op, 1)) (K : T X (YL cy adc adm E G A nL Q) kp a b (pc + 1) L (vi (dcm x y op) :: st) σ r) : T X (YL cy adc adm E G A nL Q) kp a b pc L (.double y :: .double x :: st) σ r := fun o h hk H locs ls hP hD hS hw hl => lv_dcmp C.1 C.2.1 d (by
  have e : Int32.ofInt (dcm x y op) = Op.cmpValue (FP.dcmp x y) op := by unfold dcm; simp
  rw [← e]; exact K o h hk H locs ls hP hD hS hw hl)
theorem T_f2d (C : Cx X (YL cy adc adm E G A nL Q) cc own ret Rm (tyL cy)) {x : UInt32} (hn : vf_n64 (FP.f2d x)) (d : decode cc pc = .ok (.f2d, 1)) (K : T X (YL cy adc adm E G A nL Q) kp a b (pc + 1) L (.double (FP.f2d x) :: st) σ r) : T X (YL cy adc adm E G A nL Q) kp a b pc L (.float x :: st) σ r := fun o h hk H locs ls hP hD hS hw hl => lv_f2d C.1 C.2.1 d hn (K o h hk H locs ls hP hD hS hw hl)
theorem T_last (C : Cx X (YL cy adc adm E G A nL Q) cc own ret Rm (tyL cy)) {v : Int} (hv : rng v) (d : decode cc pc = .ok (.lastore, 1)) (K : T X (YL cy adc adm E G A nL Q) kp a b (pc + 1) L st (σ.1, σ.2.1, v, σ.2.2.2) r) : T X (YL cy adc adm E G A nL Q) kp a b pc L (.long (Int64.ofInt v) :: vi 0 :: .ref (adm 11) :: st) σ r := fun o h hk H locs ls hP hD hS hw hl => by
  refine va_last (q0 := 403) (t0 := 8) C.1 C.2.1 C.2.2.2.2.2.1 hP hD hS wlL_o rfl (ix_in (i := 0) (n := 1) (by decide) (by decide)) d (fun H1 locs1 hP1 hD1 hS1 => ?_)
  have e : vp_updL (opL σ.2.2.1) (Int32.ofInt 0).toNatClampNeg (Int64.ofInt v) = opL v := by
    funext j
    show (if j = 0 then _ else _) = _
    unfold opL
    split <;> rfl
  rw [e] at hP1 hD1
  replace hP1 : va_P G vwCl (wlL cy adc adm E (σ.1, σ.2.1, v, σ.2.2.2)) H1 := by rw [← wlL_so]; exact hP1
  replace hD1 : va_D A (wlL cy adc adm E (σ.1, σ.2.1, v, σ.2.2.2)) := by rw [← wlL_so]; exact hD1
  exact K o h hk H1 locs1 ls hP1 hD1 hS1 ⟨hw.1, hw.2.1, hv⟩ hl
theorem T_lald (C : Cx X (YL cy adc adm E G A nL Q) cc own ret Rm (tyL cy)) (d : decode cc pc = .ok (.laload, 1)) (K : rng σ.2.2.1 → T X (YL cy adc adm E G A nL Q) kp a b (pc + 1) L (.long (Int64.ofInt σ.2.2.1) :: st) σ r) : T X (YL cy adc adm E G A nL Q) kp a b pc L (vi 0 :: .ref (adm 11) :: st) σ r := fun o h hk H locs ls hP hD hS hw hl =>
  va_lald (q0 := 403) (t0 := 8) C.1 C.2.1 C.2.2.2.2.2.1 hP wlL_o rfl (ix_in (i := 0) (n := 1) (by decide) (by decide)) d (K hw.2.2 o h hk H locs ls hP hD hS hw hl)
theorem T_dast (C : Cx X (YL cy adc adm E G A nL Q) cc own ret Rm (tyL cy)) {v : UInt64} (d : decode cc pc = .ok (.dastore, 1)) (K : T X (YL cy adc adm E G A nL Q) kp a b (pc + 1) L st (σ.1, σ.2.1, σ.2.2.1, v) r) : T X (YL cy adc adm E G A nL Q) kp a b pc L (.double v :: vi 0 :: .ref (adm 12) :: st) σ r := fun o h hk H locs ls hP hD hS hw hl => by
  refine va_dast (q0 := 404) (t0 := 9) C.1 C.2.1 C.2.2.2.2.2.1 hP hD hS wlL_d rfl (ix_in (i := 0) (n := 1) (by decide) (by decide)) d (fun H1 locs1 hP1 hD1 hS1 => ?_)
  have e : vf_upd (opD σ.2.2.2) (Int32.ofInt 0).toNatClampNeg v = opD v := by
    funext j
    show (if j = 0 then _ else _) = _
    unfold opD
    split <;> rfl
  rw [e] at hP1 hD1
  replace hP1 : va_P G vwCl (wlL cy adc adm E (σ.1, σ.2.1, σ.2.2.1, v)) H1 := by rw [← wlL_sd]; exact hP1
  replace hD1 : va_D A (wlL cy adc adm E (σ.1, σ.2.1, σ.2.2.1, v)) := by rw [← wlL_sd]; exact hD1
  exact K o h hk H1 locs1 ls hP1 hD1 hS1 ⟨hw.1, hw.2.1, hw.2.2⟩ hl
theorem T_dald (C : Cx X (YL cy adc adm E G A nL Q) cc own ret Rm (tyL cy)) (d : decode cc pc = .ok (.daload, 1)) (K : T X (YL cy adc adm E G A nL Q) kp a b (pc + 1) L (.double σ.2.2.2 :: st) σ r) : T X (YL cy adc adm E G A nL Q) kp a b pc L (vi 0 :: .ref (adm 12) :: st) σ r := fun o h hk H locs ls hP hD hS hw hl =>
  va_dald (q0 := 404) (t0 := 9) C.1 C.2.1 C.2.2.2.2.2.1 hP wlL_d rfl (ix_in (i := 0) (n := 1) (by decide) (by decide)) d (K o h hk H locs ls hP hD hS hw hl)
end LN
