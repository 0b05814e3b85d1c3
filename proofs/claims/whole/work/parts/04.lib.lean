/-! THE WALK'S JUDGEMENT: J (a machine walk over a world that is read off a state σ), T (the same, for a pure answer r) -/
abbrev vjX : Type := Program × Launch × Env × Room × State × MethodId × Array Value × List Frame × Method × Code
abbrev vjY (S : Type) : Type := (S → va_W) × (S → Prop) × va_G × (Nat → Prop) × Nat × (State → Prop)
abbrev vi (z : Int) : Value := .int (Int32.ofInt z)
abbrev rng (z : Int) : Prop := -2147483648 ≤ z ∧ z ≤ 2147483647
abbrev bit (z : Int) : Prop := z = 0 ∨ z = 1
theorem rngL {z : Int} (h : (decide (-2147483648 ≤ z) && decide (z ≤ 2147483647)) = true) : rng z := by
  simp only [Bool.and_eq_true, decide_eq_true_eq] at h
  exact h
theorem bit_rng {z : Int} (h : bit z) : rng z := by rcases h with rfl | rfl <;> exact ⟨by decide, by decide⟩
theorem rng_toInt {z : Int} (h : rng z) : (Int32.ofInt z).toInt = z := Int32.toInt_ofInt_of_le (by omega) (by omega)
theorem rng_lt {x y : Int} (hx : rng x) (hy : rng y) : Int32.ofInt x < Int32.ofInt y ↔ x < y := by rw [Int32.lt_iff_toInt_lt, rng_toInt hx, rng_toInt hy]
theorem rng_le {x y : Int} (hx : rng x) (hy : rng y) : Int32.ofInt x ≤ Int32.ofInt y ↔ x ≤ y := by rw [Int32.le_iff_toInt_le, rng_toInt hx, rng_toInt hy]
theorem rng_eq {x y : Int} (hx : rng x) (hy : rng y) : Int32.ofInt x = Int32.ofInt y ↔ x = y := by rw [← Int32.toInt_inj, rng_toInt hx, rng_toInt hy]
theorem rng_0 : rng 0 := ⟨by decide, by decide⟩
theorem ofI_0 : Int32.ofInt 0 = 0 := rfl
theorem ix_in {i : Int} {n : Nat} (h : 0 ≤ i ∧ i < n) (hn : n ≤ 2147483647) : vp_in (Int32.ofInt i) n := by
  have hr : rng i := ⟨by omega, by omega⟩
  rw [vp_in_iff, rng_toInt hr]
  exact h
theorem ix_nat {i : Int} {n : Nat} (h : 0 ≤ i ∧ i < n) (hn : n ≤ 2147483647) : (Int32.ofInt i).toNatClampNeg = i.toNat := by
  have hr : rng i := ⟨by omega, by omega⟩
  rw [← Int32.toNat_toInt, rng_toInt hr]
def lwG : List Cond := lw_tbl.filter goodWord
theorem lwG_tbl {w : Cond} (h : w ∈ lwG) : w ∈ lw_tbl := (List.mem_filter.mp h).1
theorem lwG_of {w : Cond} (h : w ∈ lw_tbl) (g : goodWord w = true) : w ∈ lwG := List.mem_filter.mpr ⟨h, g⟩
theorem lwG_good {y : MethodName} {cc : ByteArray} {n : Nat} {ret : Option FieldType} (h : Cond.code y cc n ret ∈ lwG) : GoodIn lwG (Cond.code y cc n ret :: lwG) := by
  intro w hw
  rcases List.mem_cons.mp hw with rfl | hw
  · exact ⟨h, good_of_word (List.mem_filter.mp h).2⟩
  · exact ⟨hw, good_of_word (List.mem_filter.mp hw).2⟩
def J {S : Type} (X : vjX) (Y : vjY S) (a b pc : Nat) (L : List (Nat × Value)) (st : List Value) (σ : S) : Prop :=
  ∀ (H : Heap) (locs : List Loc) (ls : Array Slot), va_P Y.2.2.1 vwCl (Y.1 σ) H → va_D Y.2.2.2.1 (Y.1 σ) → va_S Y.2.2.2.1 X.2.2.2.2.1.heap H locs → Y.2.1 σ → lv_has ls Y.2.2.2.2.1 L →
    W X.1 X.2.1 X.2.2.1 X.2.2.2.1 X.2.2.2.2.1 X.2.2.2.2.2.1 X.2.2.2.2.2.2.1 X.2.2.2.2.2.2.2.1 X.2.2.2.2.2.2.2.2.1 X.2.2.2.2.2.2.2.2.2 H locs a b Y.2.2.2.2.2 (F0 X.2.2.2.2.2.1 pc ls st)
/-- what a walk of the code cc of the class own stands on: the machine, the code, the room, the words, the kinds, what may be written -/
def Cx {S : Type} (X : vjX) (Y : vjY S) (cc : ByteArray) (own : String) (ret : Option FieldType) (Rm : Room) (tys : List (ClassId × FieldType)) : Prop :=
  X.1.tables.exec = Jvm.exec ∧ X.2.2.2.2.2.2.2.2.2.code = cc ∧ X.2.2.2.2.2.2.2.2.2.maxLocals = Y.2.2.2.2.1 ∧ X.2.2.2.2.1.vm.findClass own = some X.2.2.2.2.2.1.cls ∧ (∀ w ∈ lwG, w.before X.2.2.2.2.2.2.1 X.2.2.2.2.1 = true) ∧
  va_K Y.2.2.1 vwCl tys X.2.2.2.2.1 ∧ (∀ q : Nat, X.2.2.2.2.1.heap.size ≤ q → Y.2.2.2.1 q) ∧ X.2.2.2.2.2.2.2.2.1.locks = false ∧ X.2.2.2.1 = Rm ∧ X.2.2.2.2.2.2.2.2.1.sig.returnType = ret
section JR
variable {S : Type} {X : vjX} {Y : vjY S} {cc : ByteArray} {own : String} {ret : Option FieldType} {Rm : Room} {tys : List (ClassId × FieldType)} {a b pc : Nat} {L L' : List (Nat × Value)} {st : List Value} {σ : S}
theorem J_iconst (C : Cx X Y cc own ret Rm tys) {n : Int} (d : decode cc pc = .ok (.iconst n, 1)) (K : J X Y a b (pc + 1) L (vi n :: st) σ) : J X Y a b pc L st σ :=
  fun H locs ls hP hD hS hw hl => lv_iconst C.1 C.2.1 d rfl (K H locs ls hP hD hS hw hl)
theorem J_bipush (C : Cx X Y cc own ret Rm tys) {n : Int} (d : decode cc pc = .ok (.bipush n, 2)) (hn : (Int8.ofInt n).toInt32 = Int32.ofInt n) (K : J X Y a b (pc + 2) L (vi n :: st) σ) : J X Y a b pc L st σ :=
  fun H locs ls hP hD hS hw hl => lv_bipush C.1 C.2.1 d hn (K H locs ls hP hD hS hw hl)
theorem J_sipush (C : Cx X Y cc own ret Rm tys) {n : Int} (d : decode cc pc = .ok (.sipush n, 3)) (hn : (Int16.ofInt n).toInt32 = Int32.ofInt n) (K : J X Y a b (pc + 3) L (vi n :: st) σ) : J X Y a b pc L st σ :=
  fun H locs ls hP hD hS hw hl => lv_sipush C.1 C.2.1 d hn (K H locs ls hP hD hS hw hl)
theorem J_ldc (C : Cx X Y cc own ret Rm tys) {i : Nat} {v : Int32} (n : Int) (d : decode cc pc = .ok (.ldc i, 2)) (hc : Cond.constant own i v ∈ lwG) (hn : Int32.ofInt n = v) (K : J X Y a b (pc + 2) L (vi n :: st) σ) : J X Y a b pc L st σ := by
  subst hn
  exact fun H locs ls hP hD hS hw hl => lv_ldc C.1 C.2.1 C.2.2.2.1 (C.2.2.2.2.1 _ hc) d (K H locs ls hP hD hS hw hl)
theorem J_iload_n (C : Cx X Y cc own ret Rm tys) {k : Fin 4} {i : Nat} {x : Int} (d : decode cc pc = .ok (.iload_n k, 1)) (hi : (k : Nat) = i) (j : Nat) (h : L[j]? = some (i, vi x)) (K : J X Y a b (pc + 1) L (vi x :: st) σ) : J X Y a b pc L st σ :=
  fun H locs ls hP hD hS hw hl => lv_iload_n C.1 C.2.1 d hi (lv_at hl j h) (K H locs ls hP hD hS hw hl)
theorem J_iload (C : Cx X Y cc own ret Rm tys) {i : Nat} {x : Int} (d : decode cc pc = .ok (.iload i, 2)) (j : Nat) (h : L[j]? = some (i, vi x)) (K : J X Y a b (pc + 2) L (vi x :: st) σ) : J X Y a b pc L st σ :=
  fun H locs ls hP hD hS hw hl => lv_iload C.1 C.2.1 d (lv_at hl j h) (K H locs ls hP hD hS hw hl)
theorem J_aload_n (C : Cx X Y cc own ret Rm tys) {k : Fin 4} {i : Nat} {x : Nat} (d : decode cc pc = .ok (.aload_n k, 1)) (hi : (k : Nat) = i) (j : Nat) (h : L[j]? = some (i, .ref x)) (K : J X Y a b (pc + 1) L (.ref x :: st) σ) : J X Y a b pc L st σ :=
  fun H locs ls hP hD hS hw hl => lv_aload_n C.1 C.2.1 d hi (lv_at hl j h) (K H locs ls hP hD hS hw hl)
theorem J_aload (C : Cx X Y cc own ret Rm tys) {i : Nat} {x : Nat} (d : decode cc pc = .ok (.aload i, 2)) (j : Nat) (h : L[j]? = some (i, .ref x)) (K : J X Y a b (pc + 2) L (.ref x :: st) σ) : J X Y a b pc L st σ :=
  fun H locs ls hP hD hS hw hl => lv_aload C.1 C.2.1 d (lv_at hl j h) (K H locs ls hP hD hS hw hl)
theorem J_istore_n (C : Cx X Y cc own ret Rm tys) {k : Fin 4} {i : Nat} {x : Int} (d : decode cc pc = .ok (.istore_n k, 1)) (hi : (k : Nat) = i) (hn : i < Y.2.2.2.2.1) (hL : (i, vi x) :: L.filter (fun q => !(q.1 == i) && !(q.1 + 1 == i && q.2.category == 2)) = L') (K : J X Y a b (pc + 1) L' st σ) : J X Y a b pc L (vi x :: st) σ :=
  fun H locs ls hP hD hS hw hl => lv_istore_n C.1 C.2.1 d hi hl hn hL (fun ls' hl' => K H locs ls' hP hD hS hw hl')
theorem J_istore (C : Cx X Y cc own ret Rm tys) {i : Nat} {x : Int} (d : decode cc pc = .ok (.istore i, 2)) (hn : i < Y.2.2.2.2.1) (hL : (i, vi x) :: L.filter (fun q => !(q.1 == i) && !(q.1 + 1 == i && q.2.category == 2)) = L') (K : J X Y a b (pc + 2) L' st σ) : J X Y a b pc L (vi x :: st) σ :=
  fun H locs ls hP hD hS hw hl => lv_istore C.1 C.2.1 d hl hn hL (fun ls' hl' => K H locs ls' hP hD hS hw hl')
theorem J_astore_n (C : Cx X Y cc own ret Rm tys) {k : Fin 4} {i : Nat} {x : Nat} (d : decode cc pc = .ok (.astore_n k, 1)) (hi : (k : Nat) = i) (hn : i < Y.2.2.2.2.1) (hL : (i, Value.ref x) :: L.filter (fun q => !(q.1 == i) && !(q.1 + 1 == i && q.2.category == 2)) = L') (K : J X Y a b (pc + 1) L' st σ) : J X Y a b pc L (.ref x :: st) σ :=
  fun H locs ls hP hD hS hw hl => lv_astore_n C.1 C.2.1 d hi hl hn hL (fun ls' hl' => K H locs ls' hP hD hS hw hl')
theorem J_astore (C : Cx X Y cc own ret Rm tys) {i : Nat} {x : Nat} (d : decode cc pc = .ok (.astore i, 2)) (hn : i < Y.2.2.2.2.1) (hL : (i, Value.ref x) :: L.filter (fun q => !(q.1 == i) && !(q.1 + 1 == i && q.2.category == 2)) = L') (K : J X Y a b (pc + 2) L' st σ) : J X Y a b pc L (.ref x :: st) σ :=
  fun H locs ls hP hD hS hw hl => lv_astore C.1 C.2.1 d hl hn hL (fun ls' hl' => K H locs ls' hP hD hS hw hl')
theorem J_iinc (C : Cx X Y cc own ret Rm tys) {i : Nat} {n x : Int} (d : decode cc pc = .ok (.iinc i n, 3)) (hn : i < Y.2.2.2.2.1) (j : Nat) (h : L[j]? = some (i, vi x)) (hL : (i, vi (x + n)) :: L.filter (fun q => !(q.1 == i) && !(q.1 + 1 == i && q.2.category == 2)) = L') (K : J X Y a b (pc + 3) L' st σ) : J X Y a b pc L st σ :=
  fun H locs ls hP hD hS hw hl => lv_iinc (v := Int32.ofInt (x + n)) C.1 C.2.1 d hl h (Int32.ofInt_add x n).symm hn hL (fun ls' hl' => K H locs ls' hP hD hS hw hl')
theorem J_iadd (C : Cx X Y cc own ret Rm tys) {x y : Int} (d : decode cc pc = .ok (.iadd, 1)) (K : J X Y a b (pc + 1) L (vi (x + y) :: st) σ) : J X Y a b pc L (vi y :: vi x :: st) σ :=
  fun H locs ls hP hD hS hw hl => lv_iadd C.1 C.2.1 d (by rw [← Int32.ofInt_add]; exact K H locs ls hP hD hS hw hl)
theorem J_isub (C : Cx X Y cc own ret Rm tys) {x y : Int} (d : decode cc pc = .ok (.isub, 1)) (K : J X Y a b (pc + 1) L (vi (x - y) :: st) σ) : J X Y a b pc L (vi y :: vi x :: st) σ :=
  fun H locs ls hP hD hS hw hl => lv_isub C.1 C.2.1 d (by rw [← Int32.ofInt_sub]; exact K H locs ls hP hD hS hw hl)
theorem J_imul (C : Cx X Y cc own ret Rm tys) {x y : Int} (d : decode cc pc = .ok (.imul, 1)) (K : J X Y a b (pc + 1) L (vi (x * y) :: st) σ) : J X Y a b pc L (vi y :: vi x :: st) σ :=
  fun H locs ls hP hD hS hw hl => lv_imul C.1 C.2.1 d (by rw [← Int32.ofInt_mul]; exact K H locs ls hP hD hS hw hl)
theorem J_ineg (C : Cx X Y cc own ret Rm tys) {x : Int} (d : decode cc pc = .ok (.ineg, 1)) (K : J X Y a b (pc + 1) L (vi (-x) :: st) σ) : J X Y a b pc L (vi x :: st) σ :=
  fun H locs ls hP hD hS hw hl => lv_ineg C.1 C.2.1 d (by rw [← Int32.ofInt_neg]; exact K H locs ls hP hD hS hw hl)
theorem dv_ok {x y : Int} (hx : rng x) (hy : rng y) (h : 0 ≤ x ∧ 0 < y) : Int32.ofInt x / Int32.ofInt y = Int32.ofInt (x / y) := by
  rw [← Int.tdiv_eq_ediv_of_nonneg h.1]
  exact (Int32.ofInt_tdiv (by show (-2147483648 : Int) ≤ x; omega) (by show x ≤ (2147483647 : Int); omega) (by show (-2147483648 : Int) ≤ y; omega) (by show y ≤ (2147483647 : Int); omega)).symm
theorem dv_ne {y : Int} (hy : rng y) (h : 0 < y) : ¬ Int32.ofInt y = 0 := by
  rw [← ofI_0, rng_eq hy rng_0]
  omega
theorem dv_rem {x y : Int} (hx : rng x) (hy : rng y) (h : 0 ≤ x ∧ 0 < y) : Int32.ofInt x - Int32.ofInt x / Int32.ofInt y * Int32.ofInt y = Int32.ofInt (x % y) := by
  rw [dv_ok hx hy h, ← Int32.ofInt_mul, ← Int32.ofInt_sub]
  congr 1
  have := Int.mul_ediv_add_emod x y
  rw [Int.mul_comm] at this
  omega
theorem J_idiv (C : Cx X Y cc own ret Rm tys) {x y : Int} (d : decode cc pc = .ok (.idiv, 1)) (hx : rng x) (hy : rng y) (h : 0 ≤ x ∧ 0 < y) (K : J X Y a b (pc + 1) L (vi (x / y) :: st) σ) : J X Y a b pc L (vi y :: vi x :: st) σ :=
  fun H locs ls hP hD hS hw hl => lv_idiv C.1 C.2.1 d (dv_ne hy h.2) (by rw [dv_ok hx hy h]; exact K H locs ls hP hD hS hw hl)
theorem J_irem (C : Cx X Y cc own ret Rm tys) {x y : Int} (d : decode cc pc = .ok (.irem, 1)) (hx : rng x) (hy : rng y) (h : 0 ≤ x ∧ 0 < y) (K : J X Y a b (pc + 1) L (vi (x % y) :: st) σ) : J X Y a b pc L (vi y :: vi x :: st) σ :=
  fun H locs ls hP hD hS hw hl => lv_irem C.1 C.2.1 d (dv_ne hy h.2) (by rw [dv_rem hx hy h]; exact K H locs ls hP hD hS hw hl)
theorem J_dup (C : Cx X Y cc own ret Rm tys) {v : Value} (d : decode cc pc = .ok (.dup, 1)) (hv : v.category = 1) (K : J X Y a b (pc + 1) L (v :: v :: st) σ) : J X Y a b pc L (v :: st) σ :=
  fun H locs ls hP hD hS hw hl => lv_dup C.1 C.2.1 d hv (K H locs ls hP hD hS hw hl)
theorem J_pop (C : Cx X Y cc own ret Rm tys) {v : Value} (d : decode cc pc = .ok (.pop, 1)) (hv : v.category = 1) (K : J X Y a b (pc + 1) L st σ) : J X Y a b pc L (v :: st) σ :=
  fun H locs ls hP hD hS hw hl => lv_pop C.1 C.2.1 d hv (K H locs ls hP hD hS hw hl)
theorem J_dup_x1 (C : Cx X Y cc own ret Rm tys) {v w : Value} (d : decode cc pc = .ok (.dup_x1, 1)) (hv : v.category = 1) (hw1 : w.category = 1) (K : J X Y a b (pc + 1) L (v :: w :: v :: st) σ) : J X Y a b pc L (v :: w :: st) σ :=
  fun H locs ls hP hD hS hw hl => lv_dup_x1 C.1 C.2.1 d hv hw1 (K H locs ls hP hD hS hw hl)
theorem J_dup_x2 (C : Cx X Y cc own ret Rm tys) {v w u : Value} (d : decode cc pc = .ok (.dup_x2, 1)) (hv : v.category = 1) (hw1 : w.category = 1) (hu : u.category = 1) (K : J X Y a b (pc + 1) L (v :: w :: u :: v :: st) σ) : J X Y a b pc L (v :: w :: u :: st) σ :=
  fun H locs ls hP hD hS hw hl => lv_dup_x2 C.1 C.2.1 d hv hw1 hu (K H locs ls hP hD hS hw hl)
theorem J_dup2 (C : Cx X Y cc own ret Rm tys) {v w : Value} (d : decode cc pc = .ok (.dup2, 1)) (hv : v.category = 1) (hw1 : w.category = 1) (K : J X Y a b (pc + 1) L (v :: w :: v :: w :: st) σ) : J X Y a b pc L (v :: w :: st) σ :=
  fun H locs ls hP hD hS hw hl => lv_dup2_11 C.1 C.2.1 d hv hw1 (K H locs ls hP hD hS hw hl)
theorem J_goto (C : Cx X Y cc own ret Rm tys) {off : Int} (tgt : Nat) (d : decode cc pc = .ok (.goto off, 3)) (ht : (pc : Int) + off = (tgt : Int)) (K : J X Y a b tgt L st σ) : J X Y a b pc L st σ :=
  fun H locs ls hP hD hS hw hl => lv_goto C.1 C.2.1 d ht (K H locs ls hP hD hS hw hl)
theorem J_if_eq (C : Cx X Y cc own ret Rm tys) {x off : Int} (tgt : Nat) (d : decode cc pc = .ok (.ifCond .eq off, 3)) (ht : (pc : Int) + off = (tgt : Int)) (hx : rng x) (kt : x = 0 → J X Y a b tgt L st σ) (kf : ¬ x = 0 → J X Y a b (pc + 3) L st σ) : J X Y a b pc L (vi x :: st) σ :=
  fun H locs ls hP hD hS hw hl => lv_if_eq C.1 C.2.1 d ht (fun h => kt ((rng_eq hx rng_0).mp h) H locs ls hP hD hS hw hl) (fun h => kf (fun z => h ((rng_eq hx rng_0).mpr z)) H locs ls hP hD hS hw hl)
theorem J_if_ne (C : Cx X Y cc own ret Rm tys) {x off : Int} (tgt : Nat) (d : decode cc pc = .ok (.ifCond .ne off, 3)) (ht : (pc : Int) + off = (tgt : Int)) (hx : rng x) (kt : ¬ x = 0 → J X Y a b tgt L st σ) (kf : x = 0 → J X Y a b (pc + 3) L st σ) : J X Y a b pc L (vi x :: st) σ :=
  fun H locs ls hP hD hS hw hl => lv_if_ne C.1 C.2.1 d ht (fun h => kt (fun z => h ((rng_eq hx rng_0).mpr z)) H locs ls hP hD hS hw hl) (fun h => kf ((rng_eq hx rng_0).mp h) H locs ls hP hD hS hw hl)
theorem J_if_lt (C : Cx X Y cc own ret Rm tys) {x off : Int} (tgt : Nat) (d : decode cc pc = .ok (.ifCond .lt off, 3)) (ht : (pc : Int) + off = (tgt : Int)) (hx : rng x) (kt : x < 0 → J X Y a b tgt L st σ) (kf : ¬ x < 0 → J X Y a b (pc + 3) L st σ) : J X Y a b pc L (vi x :: st) σ :=
  fun H locs ls hP hD hS hw hl => lv_if_lt C.1 C.2.1 d ht (fun h => kt ((rng_lt hx rng_0).mp h) H locs ls hP hD hS hw hl) (fun h => kf (fun z => h ((rng_lt hx rng_0).mpr z)) H locs ls hP hD hS hw hl)
theorem J_if_ge (C : Cx X Y cc own ret Rm tys) {x off : Int} (tgt : Nat) (d : decode cc pc = .ok (.ifCond .ge off, 3)) (ht : (pc : Int) + off = (tgt : Int)) (hx : rng x) (kt : 0 ≤ x → J X Y a b tgt L st σ) (kf : ¬ 0 ≤ x → J X Y a b (pc + 3) L st σ) : J X Y a b pc L (vi x :: st) σ :=
  fun H locs ls hP hD hS hw hl => lv_if_ge C.1 C.2.1 d ht (fun h => kt ((rng_le rng_0 hx).mp h) H locs ls hP hD hS hw hl) (fun h => kf (fun z => h ((rng_le rng_0 hx).mpr z)) H locs ls hP hD hS hw hl)
theorem J_if_gt (C : Cx X Y cc own ret Rm tys) {x off : Int} (tgt : Nat) (d : decode cc pc = .ok (.ifCond .gt off, 3)) (ht : (pc : Int) + off = (tgt : Int)) (hx : rng x) (kt : 0 < x → J X Y a b tgt L st σ) (kf : ¬ 0 < x → J X Y a b (pc + 3) L st σ) : J X Y a b pc L (vi x :: st) σ :=
  fun H locs ls hP hD hS hw hl => lv_if_gt C.1 C.2.1 d ht (fun h => kt ((rng_lt rng_0 hx).mp h) H locs ls hP hD hS hw hl) (fun h => kf (fun z => h ((rng_lt rng_0 hx).mpr z)) H locs ls hP hD hS hw hl)
theorem J_if_le (C : Cx X Y cc own ret Rm tys) {x off : Int} (tgt : Nat) (d : decode cc pc = .ok (.ifCond .le off, 3)) (ht : (pc : Int) + off = (tgt : Int)) (hx : rng x) (kt : x ≤ 0 → J X Y a b tgt L st σ) (kf : ¬ x ≤ 0 → J X Y a b (pc + 3) L st σ) : J X Y a b pc L (vi x :: st) σ :=
  fun H locs ls hP hD hS hw hl => lv_if_le C.1 C.2.1 d ht (fun h => kt ((rng_le hx rng_0).mp h) H locs ls hP hD hS hw hl) (fun h => kf (fun z => h ((rng_le hx rng_0).mpr z)) H locs ls hP hD hS hw hl)
theorem J_icmp_eq (C : Cx X Y cc own ret Rm tys) {x y off : Int} (tgt : Nat) (d : decode cc pc = .ok (.if_icmp .eq off, 3)) (ht : (pc : Int) + off = (tgt : Int)) (hx : rng x) (hy : rng y) (kt : x = y → J X Y a b tgt L st σ) (kf : ¬ x = y → J X Y a b (pc + 3) L st σ) : J X Y a b pc L (vi y :: vi x :: st) σ :=
  fun H locs ls hP hD hS hw hl => lv_icmp_eq C.1 C.2.1 d ht (fun h => kt ((rng_eq hx hy).mp h) H locs ls hP hD hS hw hl) (fun h => kf (fun z => h ((rng_eq hx hy).mpr z)) H locs ls hP hD hS hw hl)
theorem J_icmp_ne (C : Cx X Y cc own ret Rm tys) {x y off : Int} (tgt : Nat) (d : decode cc pc = .ok (.if_icmp .ne off, 3)) (ht : (pc : Int) + off = (tgt : Int)) (hx : rng x) (hy : rng y) (kt : ¬ x = y → J X Y a b tgt L st σ) (kf : x = y → J X Y a b (pc + 3) L st σ) : J X Y a b pc L (vi y :: vi x :: st) σ :=
  fun H locs ls hP hD hS hw hl => lv_icmp_ne C.1 C.2.1 d ht (fun h => kt (fun z => h ((rng_eq hx hy).mpr z)) H locs ls hP hD hS hw hl) (fun h => kf ((rng_eq hx hy).mp h) H locs ls hP hD hS hw hl)
theorem J_icmp_lt (C : Cx X Y cc own ret Rm tys) {x y off : Int} (tgt : Nat) (d : decode cc pc = .ok (.if_icmp .lt off, 3)) (ht : (pc : Int) + off = (tgt : Int)) (hx : rng x) (hy : rng y) (kt : x < y → J X Y a b tgt L st σ) (kf : ¬ x < y → J X Y a b (pc + 3) L st σ) : J X Y a b pc L (vi y :: vi x :: st) σ :=
  fun H locs ls hP hD hS hw hl => lv_icmp_lt C.1 C.2.1 d ht (fun h => kt ((rng_lt hx hy).mp h) H locs ls hP hD hS hw hl) (fun h => kf (fun z => h ((rng_lt hx hy).mpr z)) H locs ls hP hD hS hw hl)
theorem J_icmp_ge (C : Cx X Y cc own ret Rm tys) {x y off : Int} (tgt : Nat) (d : decode cc pc = .ok (.if_icmp .ge off, 3)) (ht : (pc : Int) + off = (tgt : Int)) (hx : rng x) (hy : rng y) (kt : y ≤ x → J X Y a b tgt L st σ) (kf : ¬ y ≤ x → J X Y a b (pc + 3) L st σ) : J X Y a b pc L (vi y :: vi x :: st) σ :=
  fun H locs ls hP hD hS hw hl => lv_icmp_ge C.1 C.2.1 d ht (fun h => kt ((rng_le hy hx).mp h) H locs ls hP hD hS hw hl) (fun h => kf (fun z => h ((rng_le hy hx).mpr z)) H locs ls hP hD hS hw hl)
theorem J_icmp_gt (C : Cx X Y cc own ret Rm tys) {x y off : Int} (tgt : Nat) (d : decode cc pc = .ok (.if_icmp .gt off, 3)) (ht : (pc : Int) + off = (tgt : Int)) (hx : rng x) (hy : rng y) (kt : y < x → J X Y a b tgt L st σ) (kf : ¬ y < x → J X Y a b (pc + 3) L st σ) : J X Y a b pc L (vi y :: vi x :: st) σ :=
  fun H locs ls hP hD hS hw hl => lv_icmp_gt C.1 C.2.1 d ht (fun h => kt ((rng_lt hy hx).mp h) H locs ls hP hD hS hw hl) (fun h => kf (fun z => h ((rng_lt hy hx).mpr z)) H locs ls hP hD hS hw hl)
theorem J_icmp_le (C : Cx X Y cc own ret Rm tys) {x y off : Int} (tgt : Nat) (d : decode cc pc = .ok (.if_icmp .le off, 3)) (ht : (pc : Int) + off = (tgt : Int)) (hx : rng x) (hy : rng y) (kt : x ≤ y → J X Y a b tgt L st σ) (kf : ¬ x ≤ y → J X Y a b (pc + 3) L st σ) : J X Y a b pc L (vi y :: vi x :: st) σ :=
  fun H locs ls hP hD hS hw hl => lv_icmp_le C.1 C.2.1 d ht (fun h => kt ((rng_le hx hy).mp h) H locs ls hP hD hS hw hl) (fun h => kf (fun z => h ((rng_le hx hy).mpr z)) H locs ls hP hD hS hw hl)
end JR
