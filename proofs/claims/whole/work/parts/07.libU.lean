/-! more rules: names for values and states, loops, fewer locals, switches, bits, ranges -/
def bl {α β : Type} (x : α) (k : α → β) : β := k x
theorem bl_eq {α β : Type} (x : α) (k : α → β) : bl x k = k x := rfl
theorem rng_inc {x y : Int} (h : ¬ y ≤ x) (hx : rng x) (hy : rng y) : rng (x + 1) := by unfold rng at *; omega
theorem rng_inc' {x y : Int} (h : x < y) (hx : rng x) (hy : rng y) : rng (x + 1) := by unfold rng at *; omega
theorem rng_incl {x y : Int} (h : ¬ y < x) (hx : rng x) (hy : y < 2147483647) : rng (x + 1) := by unfold rng at *; omega
theorem rng_dv {x y : Int} (hx : rng x) (h : 0 ≤ x ∧ 0 < y) : rng (x / y) := by
  have h1 : x / y ≤ x := Int.ediv_le_self _ h.1
  have h2 : 0 ≤ x / y := Int.ediv_nonneg h.1 (by omega)
  unfold rng at *
  omega
theorem rng_md {x y : Int} (hy : rng y) (h : 0 ≤ x ∧ 0 < y) : rng (x % y) := by
  have h1 := Int.emod_nonneg x (show y ≠ 0 by omega)
  have h2 := Int.emod_lt_of_pos x h.2
  unfold rng at *
  omega
theorem rng_and {x y : Int} (h : -2147483648 ≤ x ∧ x ≤ 2147483647) : rng x := h
theorem bit_of_nar {v : Int} (h : rng v ∧ nar (some .boolean) v) : bit v := by
  have h2 := h.2 .boolean rfl
  have h3 : Int32.ofInt v &&& 1 = Int32.ofInt v := Value.int.inj h2
  have h4 : (Int32.ofInt v).toBitVec &&& 1#32 = (Int32.ofInt v).toBitVec := congrArg Int32.toBitVec h3
  have h5 := congrArg BitVec.toNat h4
  rw [BitVec.toNat_and] at h5
  have h6 : (Int32.ofInt v).toBitVec.toNat % 2 = (Int32.ofInt v).toBitVec.toNat := by rw [← Nat.and_one_is_mod]; exact h5
  have h7 : (Int32.ofInt v).toInt = v := rng_toInt h.1
  have h8 : (Int32.ofInt v).toBitVec.toInt = v := h7
  have h9 : (Int32.ofInt v).toBitVec.toNat < 2 := by omega
  rw [BitVec.toInt_eq_toNat_of_lt (by omega)] at h8
  unfold bit
  omega
theorem bit_mod (x : Int) : bit (x % 2) := by unfold bit; omega
abbrev ior (x y : Int) : Int := ((x.toNat ||| y.toNat : Nat) : Int)
theorem bit_or {x y : Int} (hx : bit x) (hy : bit y) : bit (ior x y) := by rcases hx with rfl | rfl <;> rcases hy with rfl | rfl <;> decide
theorem bit_nn {x : Int} (h : bit x) : 0 ≤ x := by unfold bit at h; omega
theorem ofInt_nat (n : Nat) : Int32.ofInt (n : Int) = Int32.ofNat n := rfl
theorem tn_ofInt (z : Int) : (Int32.ofInt z).toBitVec.toNat = (z % 4294967296).toNat := by
  show (BitVec.ofInt 32 z).toNat = _
  rw [BitVec.toNat_ofInt]
  rfl
theorem tn_nat (n : Nat) : (Int32.ofInt (n : Int)).toBitVec.toNat = n % 4294967296 := by
  rw [tn_ofInt]; omega
theorem ior_ok {x y : Int} (hx : 0 ≤ x) (hy : 0 ≤ y) : Int32.ofInt x ||| Int32.ofInt y = Int32.ofInt (ior x y) := by
  obtain ⟨n, rfl⟩ := Int.eq_ofNat_of_zero_le hx
  obtain ⟨k, rfl⟩ := Int.eq_ofNat_of_zero_le hy
  apply Int32.toBitVec_inj.mp
  apply BitVec.eq_of_toNat_eq
  rw [Int32.toBitVec_or, BitVec.toNat_or, tn_nat, tn_nat, ior, tn_nat]
  exact (Nat.or_mod_two_pow (n := 32) (a := n) (b := k)).symm
theorem ior_rng {x y : Int} (hx : rng x) (hy : rng y) (h1 : 0 ≤ x) (h2 : 0 ≤ y) : rng (ior x y) := by
  have : x.toNat ||| y.toNat < 2 ^ 31 := Nat.or_lt_two_pow (by unfold rng at hx; omega) (by unfold rng at hy; omega)
  unfold ior rng
  omega
theorem msk_ok {x : Int} (k : Nat) (hk : k < 31) (m : Int) (hm : m = 2 ^ k - 1) : Int32.ofInt x &&& Int32.ofInt m = Int32.ofInt (x % 2 ^ k) := by
  subst hm
  apply Int32.toBitVec_inj.mp
  have e : ((2 : Int) ^ k - 1) = ((2 ^ k - 1 : Nat) : Int) := by
    have : 1 ≤ 2 ^ k := Nat.one_le_two_pow
    rw [Int.ofNat_sub this]; simp
  have hlt : 2 ^ k - 1 < 2 ^ 32 := by
    have : 2 ^ k ≤ 2 ^ 31 := Nat.pow_le_pow_right (by decide) (by omega)
    omega
  have hd : ((2 : Int) ^ k) ∣ (2 ^ 32 : Int) := ⟨2 ^ (32 - k), by rw [← Int.pow_add]; congr 1; omega⟩
  apply BitVec.eq_of_toNat_eq
  have h1 := tn_ofInt
  rw [Int32.toBitVec_and, BitVec.toNat_and, h1, h1, h1, e]
  have h2 : (((2 ^ k - 1 : Nat) : Int) % 4294967296).toNat = 2 ^ k - 1 := by
    rw [Int.emod_eq_of_lt (by omega) (by omega)]; rfl
  rw [h2, Nat.and_two_pow_sub_one_eq_mod]
  have hp : (0 : Int) < 2 ^ k := Int.pow_pos (by decide)
  have h3 : (x % 2 ^ k) % 4294967296 = x % 2 ^ k := Int.emod_eq_of_lt (Int.emod_nonneg _ (by omega)) (by
    have := Int.emod_lt_of_pos x hp
    have h5 : (2 : Int) ^ k ≤ 4294967296 := Int.le_of_dvd (by decide) hd
    omega)
  rw [h3]
  have h4 : ((x % 4294967296) % 2 ^ k) = x % 2 ^ k := Int.emod_emod_of_dvd x hd
  rw [← h4]
  have h6 : 0 ≤ x % 4294967296 := Int.emod_nonneg _ (by decide)
  obtain ⟨n, hn⟩ := Int.eq_ofNat_of_zero_le h6
  rw [hn]
  norm_cast
theorem shl_ok {x y : Int} (hy : 0 ≤ y ∧ y < 32) : Int32.ofInt x <<< (Int32.ofInt y &&& 31) = Int32.ofInt (x * 2 ^ y.toNat) := by
  obtain ⟨n, rfl⟩ := Int.eq_ofNat_of_zero_le hy.1
  have hn : n < 32 := by omega
  have e : Int32.ofInt (n : Int) &&& 31 = Int32.ofNat n := by
    have := msk_ok (x := (n : Int)) 5 (by decide) 31 (by decide)
    rw [show (31 : Int32) = Int32.ofInt 31 from rfl, this, Int.emod_eq_of_lt (by omega) (by show (n : Int) < 32; omega)]
    rfl
  rw [e]
  apply Int32.toBitVec_inj.mp
  rw [Int32.toBitVec_shiftLeft]
  have e2 : ((Int32.ofNat n).toBitVec.smod 32) = BitVec.ofNat 32 n := by
    have : ∀ m, m < 32 → ((Int32.ofNat m).toBitVec.smod 32) = BitVec.ofNat 32 m := by decide +kernel
    exact this n hn
  rw [e2]
  show (BitVec.ofInt 32 x) <<< (BitVec.ofNat 32 n) = BitVec.ofInt 32 (x * 2 ^ n)
  rw [BitVec.shiftLeft_eq', BitVec.toNat_ofNat, Nat.mod_eq_of_lt (by omega), BitVec.shiftLeft_eq_mul_twoPow, BitVec.ofInt_mul]
  congr 1
  apply BitVec.eq_of_toNat_eq
  rw [BitVec.toNat_twoPow, BitVec.toNat_ofInt]
  norm_cast
theorem shr_ok {x y : Int} (hx : rng x) (h0 : 0 ≤ x) (hy : 0 ≤ y ∧ y < 32) : Int32.ofInt x >>> (Int32.ofInt y &&& 31) = Int32.ofInt (x / 2 ^ y.toNat) := by
  obtain ⟨n, rfl⟩ := Int.eq_ofNat_of_zero_le hy.1
  have hn : n < 32 := by omega
  have e : Int32.ofInt (n : Int) &&& 31 = Int32.ofNat n := by
    have := msk_ok (x := (n : Int)) 5 (by decide) 31 (by decide)
    rw [show (31 : Int32) = Int32.ofInt 31 from rfl, this, Int.emod_eq_of_lt (by omega) (by show (n : Int) < 32; omega)]
    rfl
  rw [e]
  apply Int32.toInt_inj.mp
  have e2 : ((Int32.ofNat n).toBitVec.smod 32) = BitVec.ofNat 32 n := by
    have : ∀ m, m < 32 → ((Int32.ofNat m).toBitVec.smod 32) = BitVec.ofNat 32 m := by decide +kernel
    exact this n hn
  have hp : (0 : Int) < 2 ^ n := Int.pow_pos (by decide)
  have hr : rng (x / 2 ^ n) := by
    have h1 : x / 2 ^ n ≤ x := Int.ediv_le_self _ h0
    have h2 : 0 ≤ x / 2 ^ n := Int.ediv_nonneg h0 (by omega)
    unfold rng at *
    omega
  rw [rng_toInt (show rng (x / 2 ^ (Int.toNat (n : Int))) from hr)]
  show ((Int32.ofInt x).toBitVec.sshiftRight' ((Int32.ofNat n).toBitVec.smod 32)).toInt = _
  rw [e2, BitVec.sshiftRight', BitVec.toNat_ofNat, Nat.mod_eq_of_lt (by omega), BitVec.toInt_sshiftRight]
  have h7 : (Int32.ofInt x).toBitVec.toInt = x := rng_toInt hx
  rw [h7, Int.shiftRight_eq_div_pow]
  norm_cast
theorem chr_ok {x : Int} (h : 0 ≤ x ∧ x < 65536) : ((Int32.ofInt x).toUInt32 % 65536).toInt32 = Int32.ofInt x := by
  obtain ⟨n, rfl⟩ := Int.eq_ofNat_of_zero_le h.1
  have hn : n < 65536 := by omega
  apply Int32.toBitVec_inj.mp
  apply BitVec.eq_of_toNat_eq
  show ((Int32.ofInt (n : Int)).toUInt32 % 65536).toNat = _
  rw [UInt32.toNat_mod]
  show (Int32.ofInt (n : Int)).toBitVec.toNat % 65536 = (Int32.ofInt (n : Int)).toBitVec.toNat
  show (BitVec.ofInt 32 (n : Int)).toNat % 65536 = (BitVec.ofInt 32 (n : Int)).toNat
  rw [BitVec.toNat_ofInt]
  omega
section UR
variable {S O : Type} {X : vjX} {Y : vjY S} {kp : O → Prop} {cc : ByteArray} {own : String} {ret : Option FieldType} {Rm : Room} {tys : List (ClassId × FieldType)} {a b pc : Nat} {L L' : List (Nat × Value)} {st : List Value} {σ : S} {r : Option O}
theorem T_blS {k : S → Option O} (K : ∀ s : S, T X Y kp a b pc L st s (k s)) : T X Y kp a b pc L st σ (bl σ k) := K σ
theorem T_eq {r' : Option O} (h : r = r') (K : T X Y kp a b pc L st σ r') : T X Y kp a b pc L st σ r := h ▸ K
theorem T_blV {x : Int} {k : Int → Option O} (hr : rng x) (K : ∀ v : Int, rng v → T X Y kp a b pc L (vi v :: st) σ (k v)) : T X Y kp a b pc L (vi x :: st) σ (bl x k) := K x hr
theorem T_blN {x : Int} {k : Int → Option O} (K : ∀ v : Int, T X Y kp a b pc L (vi v :: st) σ (k v)) : T X Y kp a b pc L (vi x :: st) σ (bl x k) := K x
theorem T_blB {x : Int} {k : Int → Option O} (hr : bit x) (K : ∀ v : Int, bit v → T X Y kp a b pc L (vi v :: st) σ (k v)) : T X Y kp a b pc L (vi x :: st) σ (bl x k) := K x hr
theorem T_sub (ks : List Nat) (hL : lv_pick L ks = L') (K : T X Y kp a b pc L' st σ r) : T X Y kp a b pc L st σ r := fun o h hk H locs ls hP hD hS hw hl => K o h hk H locs ls hP hD hS hw (lv_sub hl ks hL)
theorem T_ite {c : Prop} {dc : Decidable c} {r1 r2 : Option O} (kt : c → T X Y kp a b pc L st σ r1) (kf : ¬ c → T X Y kp a b pc L st σ r2) : T X Y kp a b pc L st σ (@ite _ c dc r1 r2) := fun o h hk => by
  by_cases q : c
  · rw [if_pos q] at h; exact kt q o h hk
  · rw [if_neg q] at h; exact kf q o h hk
theorem T_tswIn (C : Cx X Y cc own ret Rm tys) {dflt lo hi off x : Int} {offs : Array Int} {len : Nat} (n : Int) (hx : x = n) (hn : rng n) (tgt : Nat) (d : decode cc pc = .ok (.tableswitch dflt lo hi offs, len)) (h1 : ¬ n < lo) (h2 : ¬ hi < n) (ho : offs[(n - lo).toNat]? = some off) (ht : (pc : Int) + off = (tgt : Int)) (K : T X Y kp a b tgt L st σ r) : T X Y kp a b pc L (vi x :: st) σ r := by
  subst hx
  intro o h hk H locs ls hP hD hS hw hl
  refine lv_tableIn C.1 C.2.1 d ?_ ?_ ?_ ht (K o h hk H locs ls hP hD hS hw hl) <;> rw [rng_toInt hn] <;> assumption
theorem T_tswOut (C : Cx X Y cc own ret Rm tys) {dflt lo hi x : Int} {offs : Array Int} {len : Nat} (hx : rng x) (tgt : Nat) (d : decode cc pc = .ok (.tableswitch dflt lo hi offs, len)) (h1 : x < lo ∨ hi < x) (ht : (pc : Int) + dflt = (tgt : Int)) (K : T X Y kp a b tgt L st σ r) : T X Y kp a b pc L (vi x :: st) σ r := by
  intro o h hk H locs ls hP hD hS hw hl
  refine lv_tableOut C.1 C.2.1 d ?_ ht (K o h hk H locs ls hP hD hS hw hl)
  rw [rng_toInt hx]
  assumption
theorem T_ior (C : Cx X Y cc own ret Rm tys) {x y : Int} (h1 : 0 ≤ x) (h2 : 0 ≤ y) (d : decode cc pc = .ok (.ior, 1)) (K : T X Y kp a b (pc + 1) L (vi (ior x y) :: st) σ r) : T X Y kp a b pc L (vi y :: vi x :: st) σ r := fun o h hk H locs ls hP hD hS hw hl => by
  refine lv_ior C.1 C.2.1 d ?_
  rw [ior_ok h1 h2]
  exact K o h hk H locs ls hP hD hS hw hl
theorem T_mask (C : Cx X Y cc own ret Rm tys) {x m : Int} (k : Nat) (p : Int) (hk : k < 31) (hm : m = 2 ^ k - 1) (hp : (2 : Int) ^ k = p) (d : decode cc pc = .ok (.iand, 1)) (K : T X Y kp a b (pc + 1) L (vi (x % p) :: st) σ r) : T X Y kp a b pc L (vi m :: vi x :: st) σ r := fun o h hk2 H locs ls hP hD hS hw hl => by
  refine lv_iand C.1 C.2.1 d ?_
  rw [msk_ok k hk m hm, hp]
  exact K o h hk2 H locs ls hP hD hS hw hl
theorem T_ishl (C : Cx X Y cc own ret Rm tys) {x y : Int} (hy : 0 ≤ y ∧ y < 32) (d : decode cc pc = .ok (.ishl, 1)) (K : T X Y kp a b (pc + 1) L (vi (x * 2 ^ y.toNat) :: st) σ r) : T X Y kp a b pc L (vi y :: vi x :: st) σ r := fun o h hk H locs ls hP hD hS hw hl => by
  refine lv_ishl C.1 C.2.1 d ?_
  rw [shl_ok hy]
  exact K o h hk H locs ls hP hD hS hw hl
theorem T_ishr (C : Cx X Y cc own ret Rm tys) {x y : Int} (hx : rng x) (h0 : 0 ≤ x) (hy : 0 ≤ y ∧ y < 32) (d : decode cc pc = .ok (.ishr, 1)) (K : T X Y kp a b (pc + 1) L (vi (x / 2 ^ y.toNat) :: st) σ r) : T X Y kp a b pc L (vi y :: vi x :: st) σ r := fun o h hk H locs ls hP hD hS hw hl => by
  refine lv_ishr C.1 C.2.1 d ?_
  rw [shr_ok hx h0 hy]
  exact K o h hk H locs ls hP hD hS hw hl
theorem T_i2c (C : Cx X Y cc own ret Rm tys) {x : Int} (hx : 0 ≤ x ∧ x < 65536) (d : decode cc pc = .ok (.i2c, 1)) (K : T X Y kp a b (pc + 1) L (vi x :: st) σ r) : T X Y kp a b pc L (vi x :: st) σ r := fun o h hk H locs ls hP hD hS hw hl =>
  lv_i2c C.1 C.2.1 d (chr_ok hx) (K o h hk H locs ls hP hD hS hw hl)
theorem nar_C {x : Int} (hx : 0 ≤ x ∧ x < 65536) : narrow .char (vi x) = vi x := by
  have h := pk_nc (Int32.ofInt x)
  rw [chr_ok hx] at h
  exact h
/-- a loop's exit; what comes behind it -/
theorem T_loopE {P : Type} {fc : P → Prop} {pcx : Nat} {Lx : P → List (Nat × Value)} {σx : P → S} {f : Option P} {k : P → Option O} (hl : T X Y (fun q => fc q → J X Y a b pcx (Lx q) [] (σx q)) a b pc L st σ f) (K : ∀ q, fc q → T X Y kp a b pcx (Lx q) [] (σx q) (k q)) : T X Y kp a b pc L st σ (f.bind k) := T_loop hl (fun q o _ h2 h3 hf => K q hf o h2 h3)
theorem T_loopS {O' P : Type} {kr : O' → Prop} {g : O' → O} {fc : P → Prop} {pcx : Nat} {Lx : P → List (Nat × Value)} {σx : P → S} {f : Option (O' ⊕ P)} {k : P → Option O} (hl : T X Y (Sum.elim kr (fun q => fc q → J X Y a b pcx (Lx q) [] (σx q))) a b pc L st σ f) (hg : ∀ v, kp (g v) → kr v) (K : ∀ q, fc q → T X Y kp a b pcx (Lx q) [] (σx q) (k q)) : T X Y kp a b pc L st σ (f.bind (Sum.elim (fun v => some (g v)) k)) := T_loop hl (fun q o _ h2 h3 => by
  cases q with
  | inl v => cases h2; exact hg v h3
  | inr q => exact fun hf => K q hf o h2 h3)
end UR
theorem tb_1 {w : Cond} (h : w ∈ tables_1_1) : w ∈ lw_tbl := List.mem_append_right _ (List.mem_append_left _ h)
theorem tb_2 {w : Cond} (h : w ∈ tables_1_2) : w ∈ lw_tbl := List.mem_append_right _ (List.mem_append_right _ (List.mem_append_left _ h))
theorem tb_3 {w : Cond} (h : w ∈ tables_1_3) : w ∈ lw_tbl := List.mem_append_right _ (List.mem_append_right _ (List.mem_append_right _ (List.mem_append_left _ h)))
theorem tb_4 {w : Cond} (h : w ∈ tables_1_4) : w ∈ lw_tbl := List.mem_append_right _ (List.mem_append_right _ (List.mem_append_right _ (List.mem_append_right _ (List.mem_append_left _ h))))
theorem tb_5 {w : Cond} (h : w ∈ tables_1_5) : w ∈ lw_tbl := List.mem_append_right _ (List.mem_append_right _ (List.mem_append_right _ (List.mem_append_right _ (List.mem_append_right _ (List.mem_append_left _ h)))))
theorem tb_6 {w : Cond} (h : w ∈ tables_1_6) : w ∈ lw_tbl := List.mem_append_right _ (List.mem_append_right _ (List.mem_append_right _ (List.mem_append_right _ (List.mem_append_right _ (List.mem_append_right _ (List.mem_append_left _ h))))))
theorem tb_7 {w : Cond} (h : w ∈ tables_1_7) : w ∈ lw_tbl := List.mem_append_right _ (List.mem_append_right _ (List.mem_append_right _ (List.mem_append_right _ (List.mem_append_right _ (List.mem_append_right _ (List.mem_append_right _ (List.mem_append_left _ h)))))))
theorem tb_8 {w : Cond} (h : w ∈ tables_1_8) : w ∈ lw_tbl := List.mem_append_right _ (List.mem_append_right _ (List.mem_append_right _ (List.mem_append_right _ (List.mem_append_right _ (List.mem_append_right _ (List.mem_append_right _ (List.mem_append_right _ (List.mem_append_left _ h))))))))
theorem tb_9 {w : Cond} (h : w ∈ tables_1_9) : w ∈ lw_tbl := List.mem_append_right _ (List.mem_append_right _ (List.mem_append_right _ (List.mem_append_right _ (List.mem_append_right _ (List.mem_append_right _ (List.mem_append_right _ (List.mem_append_right _ (List.mem_append_right _ (List.mem_append_left _ h)))))))))
theorem tb_10 {w : Cond} (h : w ∈ tables_1_10) : w ∈ lw_tbl := List.mem_append_right _ (List.mem_append_right _ (List.mem_append_right _ (List.mem_append_right _ (List.mem_append_right _ (List.mem_append_right _ (List.mem_append_right _ (List.mem_append_right _ (List.mem_append_right _ (List.mem_append_right _ (List.mem_append_left _ h))))))))))
theorem tb_11 {w : Cond} (h : w ∈ tables_1_11) : w ∈ lw_tbl := List.mem_append_right _ (List.mem_append_right _ (List.mem_append_right _ (List.mem_append_right _ (List.mem_append_right _ (List.mem_append_right _ (List.mem_append_right _ (List.mem_append_right _ (List.mem_append_right _ (List.mem_append_right _ (List.mem_append_right _ h))))))))))
