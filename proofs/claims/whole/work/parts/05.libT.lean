/-! T: a walk beside a pure answer; contracts; calls -/
def T {S O : Type} (X : vjX) (Y : vjY S) (kp : O → Prop) (a b pc : Nat) (L : List (Nat × Value)) (st : List Value) (σ : S) (r : Option O) : Prop := ∀ o, r = some o → kp o → J X Y a b pc L st σ
section TR
variable {S O : Type} {X : vjX} {Y : vjY S} {kp : O → Prop} {cc : ByteArray} {own : String} {ret : Option FieldType} {Rm : Room} {tys : List (ClassId × FieldType)} {a b pc : Nat} {L L' : List (Nat × Value)} {st : List Value} {σ : S}
theorem T_none : T X Y kp a b pc L st σ (none : Option O) := fun o h _ => by cases h
theorem T_guard {g : Prop} {dg : Decidable g} {r : Option O} (K : g → T X Y kp a b pc L st σ r) : T X Y kp a b pc L st σ (@ite _ g dg r none) := fun o h hk => by
  by_cases hg : g
  · rw [if_pos hg] at h; exact K hg o h hk
  · rw [if_neg hg] at h; cases h
theorem T_iconst {r : Option O} (C : Cx X Y cc own ret Rm tys) {n : Int} (d : decode cc pc = .ok (.iconst n, 1)) (K : T X Y kp a b (pc + 1) L (vi n :: st) σ r) : T X Y kp a b pc L st σ r := fun o h9 hk => J_iconst C d (K o h9 hk)
theorem T_bipush {r : Option O} (C : Cx X Y cc own ret Rm tys) {n : Int} (d : decode cc pc = .ok (.bipush n, 2)) (hn : (Int8.ofInt n).toInt32 = Int32.ofInt n) (K : T X Y kp a b (pc + 2) L (vi n :: st) σ r) : T X Y kp a b pc L st σ r := fun o h9 hk => J_bipush C d hn (K o h9 hk)
theorem T_sipush {r : Option O} (C : Cx X Y cc own ret Rm tys) {n : Int} (d : decode cc pc = .ok (.sipush n, 3)) (hn : (Int16.ofInt n).toInt32 = Int32.ofInt n) (K : T X Y kp a b (pc + 3) L (vi n :: st) σ r) : T X Y kp a b pc L st σ r := fun o h9 hk => J_sipush C d hn (K o h9 hk)
theorem T_ldc {r : Option O} (C : Cx X Y cc own ret Rm tys) {i : Nat} {v : Int32} (n : Int) (d : decode cc pc = .ok (.ldc i, 2)) (hc : Cond.constant own i v ∈ lwG) (hn : Int32.ofInt n = v) (K : T X Y kp a b (pc + 2) L (vi n :: st) σ r) : T X Y kp a b pc L st σ r := fun o h9 hk => J_ldc C n d hc hn (K o h9 hk)
theorem T_iload_n {r : Option O} (C : Cx X Y cc own ret Rm tys) {k : Fin 4} {i : Nat} {x : Int} (d : decode cc pc = .ok (.iload_n k, 1)) (hi : (k : Nat) = i) (j : Nat) (h : L[j]? = some (i, vi x)) (K : T X Y kp a b (pc + 1) L (vi x :: st) σ r) : T X Y kp a b pc L st σ r := fun o h9 hk => J_iload_n C d hi j h (K o h9 hk)
theorem T_iload {r : Option O} (C : Cx X Y cc own ret Rm tys) {i : Nat} {x : Int} (d : decode cc pc = .ok (.iload i, 2)) (j : Nat) (h : L[j]? = some (i, vi x)) (K : T X Y kp a b (pc + 2) L (vi x :: st) σ r) : T X Y kp a b pc L st σ r := fun o h9 hk => J_iload C d j h (K o h9 hk)
theorem T_aload_n {r : Option O} (C : Cx X Y cc own ret Rm tys) {k : Fin 4} {i : Nat} {x : Nat} (d : decode cc pc = .ok (.aload_n k, 1)) (hi : (k : Nat) = i) (j : Nat) (h : L[j]? = some (i, .ref x)) (K : T X Y kp a b (pc + 1) L (.ref x :: st) σ r) : T X Y kp a b pc L st σ r := fun o h9 hk => J_aload_n C d hi j h (K o h9 hk)
theorem T_aload {r : Option O} (C : Cx X Y cc own ret Rm tys) {i : Nat} {x : Nat} (d : decode cc pc = .ok (.aload i, 2)) (j : Nat) (h : L[j]? = some (i, .ref x)) (K : T X Y kp a b (pc + 2) L (.ref x :: st) σ r) : T X Y kp a b pc L st σ r := fun o h9 hk => J_aload C d j h (K o h9 hk)
theorem T_istore_n {r : Option O} (C : Cx X Y cc own ret Rm tys) {k : Fin 4} {i : Nat} {x : Int} (d : decode cc pc = .ok (.istore_n k, 1)) (hi : (k : Nat) = i) (hn : i < Y.2.2.2.2.1) (hL : (i, vi x) :: L.filter (fun q => !(q.1 == i) && !(q.1 + 1 == i && q.2.category == 2)) = L') (K : T X Y kp a b (pc + 1) L' st σ r) : T X Y kp a b pc L (vi x :: st) σ r := fun o h9 hk => J_istore_n C d hi hn hL (K o h9 hk)
theorem T_istore {r : Option O} (C : Cx X Y cc own ret Rm tys) {i : Nat} {x : Int} (d : decode cc pc = .ok (.istore i, 2)) (hn : i < Y.2.2.2.2.1) (hL : (i, vi x) :: L.filter (fun q => !(q.1 == i) && !(q.1 + 1 == i && q.2.category == 2)) = L') (K : T X Y kp a b (pc + 2) L' st σ r) : T X Y kp a b pc L (vi x :: st) σ r := fun o h9 hk => J_istore C d hn hL (K o h9 hk)
theorem T_astore_n {r : Option O} (C : Cx X Y cc own ret Rm tys) {k : Fin 4} {i : Nat} {x : Nat} (d : decode cc pc = .ok (.astore_n k, 1)) (hi : (k : Nat) = i) (hn : i < Y.2.2.2.2.1) (hL : (i, Value.ref x) :: L.filter (fun q => !(q.1 == i) && !(q.1 + 1 == i && q.2.category == 2)) = L') (K : T X Y kp a b (pc + 1) L' st σ r) : T X Y kp a b pc L (.ref x :: st) σ r := fun o h9 hk => J_astore_n C d hi hn hL (K o h9 hk)
theorem T_astore {r : Option O} (C : Cx X Y cc own ret Rm tys) {i : Nat} {x : Nat} (d : decode cc pc = .ok (.astore i, 2)) (hn : i < Y.2.2.2.2.1) (hL : (i, Value.ref x) :: L.filter (fun q => !(q.1 == i) && !(q.1 + 1 == i && q.2.category == 2)) = L') (K : T X Y kp a b (pc + 2) L' st σ r) : T X Y kp a b pc L (.ref x :: st) σ r := fun o h9 hk => J_astore C d hn hL (K o h9 hk)
theorem T_iinc {r : Option O} (C : Cx X Y cc own ret Rm tys) {i : Nat} {n x : Int} (d : decode cc pc = .ok (.iinc i n, 3)) (hn : i < Y.2.2.2.2.1) (j : Nat) (h : L[j]? = some (i, vi x)) (hL : (i, vi (x + n)) :: L.filter (fun q => !(q.1 == i) && !(q.1 + 1 == i && q.2.category == 2)) = L') (K : T X Y kp a b (pc + 3) L' st σ r) : T X Y kp a b pc L st σ r := fun o h9 hk => J_iinc C d hn j h hL (K o h9 hk)
theorem T_iadd {r : Option O} (C : Cx X Y cc own ret Rm tys) {x y : Int} (d : decode cc pc = .ok (.iadd, 1)) (K : T X Y kp a b (pc + 1) L (vi (x + y) :: st) σ r) : T X Y kp a b pc L (vi y :: vi x :: st) σ r := fun o h9 hk => J_iadd C d (K o h9 hk)
theorem T_isub {r : Option O} (C : Cx X Y cc own ret Rm tys) {x y : Int} (d : decode cc pc = .ok (.isub, 1)) (K : T X Y kp a b (pc + 1) L (vi (x - y) :: st) σ r) : T X Y kp a b pc L (vi y :: vi x :: st) σ r := fun o h9 hk => J_isub C d (K o h9 hk)
theorem T_imul {r : Option O} (C : Cx X Y cc own ret Rm tys) {x y : Int} (d : decode cc pc = .ok (.imul, 1)) (K : T X Y kp a b (pc + 1) L (vi (x * y) :: st) σ r) : T X Y kp a b pc L (vi y :: vi x :: st) σ r := fun o h9 hk => J_imul C d (K o h9 hk)
theorem T_ineg {r : Option O} (C : Cx X Y cc own ret Rm tys) {x : Int} (d : decode cc pc = .ok (.ineg, 1)) (K : T X Y kp a b (pc + 1) L (vi (-x) :: st) σ r) : T X Y kp a b pc L (vi x :: st) σ r := fun o h9 hk => J_ineg C d (K o h9 hk)
theorem T_idiv {r : Option O} (C : Cx X Y cc own ret Rm tys) {x y : Int} (d : decode cc pc = .ok (.idiv, 1)) (hx : rng x) (hy : rng y) (h : 0 ≤ x ∧ 0 < y) (K : T X Y kp a b (pc + 1) L (vi (x / y) :: st) σ r) : T X Y kp a b pc L (vi y :: vi x :: st) σ r := fun o h9 hk => J_idiv C d hx hy h (K o h9 hk)
theorem T_irem {r : Option O} (C : Cx X Y cc own ret Rm tys) {x y : Int} (d : decode cc pc = .ok (.irem, 1)) (hx : rng x) (hy : rng y) (h : 0 ≤ x ∧ 0 < y) (K : T X Y kp a b (pc + 1) L (vi (x % y) :: st) σ r) : T X Y kp a b pc L (vi y :: vi x :: st) σ r := fun o h9 hk => J_irem C d hx hy h (K o h9 hk)
theorem T_dup {r : Option O} (C : Cx X Y cc own ret Rm tys) {v : Value} (d : decode cc pc = .ok (.dup, 1)) (hv : v.category = 1) (K : T X Y kp a b (pc + 1) L (v :: v :: st) σ r) : T X Y kp a b pc L (v :: st) σ r := fun o h9 hk => J_dup C d hv (K o h9 hk)
theorem T_pop {r : Option O} (C : Cx X Y cc own ret Rm tys) {v : Value} (d : decode cc pc = .ok (.pop, 1)) (hv : v.category = 1) (K : T X Y kp a b (pc + 1) L st σ r) : T X Y kp a b pc L (v :: st) σ r := fun o h9 hk => J_pop C d hv (K o h9 hk)
theorem T_dup_x1 {r : Option O} (C : Cx X Y cc own ret Rm tys) {v w : Value} (d : decode cc pc = .ok (.dup_x1, 1)) (hv : v.category = 1) (hw1 : w.category = 1) (K : T X Y kp a b (pc + 1) L (v :: w :: v :: st) σ r) : T X Y kp a b pc L (v :: w :: st) σ r := fun o h9 hk => J_dup_x1 C d hv hw1 (K o h9 hk)
theorem T_dup_x2 {r : Option O} (C : Cx X Y cc own ret Rm tys) {v w u : Value} (d : decode cc pc = .ok (.dup_x2, 1)) (hv : v.category = 1) (hw1 : w.category = 1) (hu : u.category = 1) (K : T X Y kp a b (pc + 1) L (v :: w :: u :: v :: st) σ r) : T X Y kp a b pc L (v :: w :: u :: st) σ r := fun o h9 hk => J_dup_x2 C d hv hw1 hu (K o h9 hk)
theorem T_dup2 {r : Option O} (C : Cx X Y cc own ret Rm tys) {v w : Value} (d : decode cc pc = .ok (.dup2, 1)) (hv : v.category = 1) (hw1 : w.category = 1) (K : T X Y kp a b (pc + 1) L (v :: w :: v :: w :: st) σ r) : T X Y kp a b pc L (v :: w :: st) σ r := fun o h9 hk => J_dup2 C d hv hw1 (K o h9 hk)
theorem T_goto {r : Option O} (C : Cx X Y cc own ret Rm tys) {off : Int} (tgt : Nat) (d : decode cc pc = .ok (.goto off, 3)) (ht : (pc : Int) + off = (tgt : Int)) (K : T X Y kp a b tgt L st σ r) : T X Y kp a b pc L st σ r := fun o h9 hk => J_goto C tgt d ht (K o h9 hk)
theorem T_if_eq {r1 r2 : Option O} (C : Cx X Y cc own ret Rm tys) {x off : Int} (tgt : Nat) (d : decode cc pc = .ok (.ifCond .eq off, 3)) (ht : (pc : Int) + off = (tgt : Int)) (hx : rng x) (kt : x = 0 → T X Y kp a b tgt L st σ r1) (kf : ¬ x = 0 → T X Y kp a b (pc + 3) L st σ r2) : T X Y kp a b pc L (vi x :: st) σ (if x = 0 then r1 else r2) := fun o h9 hk => J_if_eq C tgt d ht hx (fun q => kt q o (by rw [if_pos q] at h9; exact h9) hk) (fun q => kf q o (by rw [if_neg q] at h9; exact h9) hk)
theorem T_if_eq_t {r : Option O} (C : Cx X Y cc own ret Rm tys) {x off : Int} (tgt : Nat) (d : decode cc pc = .ok (.ifCond .eq off, 3)) (ht : (pc : Int) + off = (tgt : Int)) (hx : rng x) (hc : x = 0) (K : T X Y kp a b tgt L st σ r) : T X Y kp a b pc L (vi x :: st) σ r := fun o h9 hk => J_if_eq C tgt d ht hx (fun _ => K o h9 hk) (fun q => absurd hc q)
theorem T_if_eq_f {r : Option O} (C : Cx X Y cc own ret Rm tys) {x off : Int} (tgt : Nat) (d : decode cc pc = .ok (.ifCond .eq off, 3)) (ht : (pc : Int) + off = (tgt : Int)) (hx : rng x) (hc : ¬ x = 0) (K : T X Y kp a b (pc + 3) L st σ r) : T X Y kp a b pc L (vi x :: st) σ r := fun o h9 hk => J_if_eq C tgt d ht hx (fun q => absurd q hc) (fun _ => K o h9 hk)
theorem T_if_ne {r1 r2 : Option O} (C : Cx X Y cc own ret Rm tys) {x off : Int} (tgt : Nat) (d : decode cc pc = .ok (.ifCond .ne off, 3)) (ht : (pc : Int) + off = (tgt : Int)) (hx : rng x) (kt : ¬ x = 0 → T X Y kp a b tgt L st σ r1) (kf : x = 0 → T X Y kp a b (pc + 3) L st σ r2) : T X Y kp a b pc L (vi x :: st) σ (if x = 0 then r2 else r1) := fun o h9 hk => J_if_ne C tgt d ht hx (fun q => kt q o (by rw [if_neg q] at h9; exact h9) hk) (fun q => kf q o (by rw [if_pos q] at h9; exact h9) hk)
theorem T_if_ne_t {r : Option O} (C : Cx X Y cc own ret Rm tys) {x off : Int} (tgt : Nat) (d : decode cc pc = .ok (.ifCond .ne off, 3)) (ht : (pc : Int) + off = (tgt : Int)) (hx : rng x) (hc : ¬ x = 0) (K : T X Y kp a b tgt L st σ r) : T X Y kp a b pc L (vi x :: st) σ r := fun o h9 hk => J_if_ne C tgt d ht hx (fun _ => K o h9 hk) (fun q => absurd q hc)
theorem T_if_ne_f {r : Option O} (C : Cx X Y cc own ret Rm tys) {x off : Int} (tgt : Nat) (d : decode cc pc = .ok (.ifCond .ne off, 3)) (ht : (pc : Int) + off = (tgt : Int)) (hx : rng x) (hc : x = 0) (K : T X Y kp a b (pc + 3) L st σ r) : T X Y kp a b pc L (vi x :: st) σ r := fun o h9 hk => J_if_ne C tgt d ht hx (fun q => absurd hc q) (fun _ => K o h9 hk)
theorem T_if_lt {r1 r2 : Option O} (C : Cx X Y cc own ret Rm tys) {x off : Int} (tgt : Nat) (d : decode cc pc = .ok (.ifCond .lt off, 3)) (ht : (pc : Int) + off = (tgt : Int)) (hx : rng x) (kt : x < 0 → T X Y kp a b tgt L st σ r1) (kf : ¬ x < 0 → T X Y kp a b (pc + 3) L st σ r2) : T X Y kp a b pc L (vi x :: st) σ (if x < 0 then r1 else r2) := fun o h9 hk => J_if_lt C tgt d ht hx (fun q => kt q o (by rw [if_pos q] at h9; exact h9) hk) (fun q => kf q o (by rw [if_neg q] at h9; exact h9) hk)
theorem T_if_lt_t {r : Option O} (C : Cx X Y cc own ret Rm tys) {x off : Int} (tgt : Nat) (d : decode cc pc = .ok (.ifCond .lt off, 3)) (ht : (pc : Int) + off = (tgt : Int)) (hx : rng x) (hc : x < 0) (K : T X Y kp a b tgt L st σ r) : T X Y kp a b pc L (vi x :: st) σ r := fun o h9 hk => J_if_lt C tgt d ht hx (fun _ => K o h9 hk) (fun q => absurd hc q)
theorem T_if_lt_f {r : Option O} (C : Cx X Y cc own ret Rm tys) {x off : Int} (tgt : Nat) (d : decode cc pc = .ok (.ifCond .lt off, 3)) (ht : (pc : Int) + off = (tgt : Int)) (hx : rng x) (hc : ¬ x < 0) (K : T X Y kp a b (pc + 3) L st σ r) : T X Y kp a b pc L (vi x :: st) σ r := fun o h9 hk => J_if_lt C tgt d ht hx (fun q => absurd q hc) (fun _ => K o h9 hk)
theorem T_if_ge {r1 r2 : Option O} (C : Cx X Y cc own ret Rm tys) {x off : Int} (tgt : Nat) (d : decode cc pc = .ok (.ifCond .ge off, 3)) (ht : (pc : Int) + off = (tgt : Int)) (hx : rng x) (kt : 0 ≤ x → T X Y kp a b tgt L st σ r1) (kf : ¬ 0 ≤ x → T X Y kp a b (pc + 3) L st σ r2) : T X Y kp a b pc L (vi x :: st) σ (if 0 ≤ x then r1 else r2) := fun o h9 hk => J_if_ge C tgt d ht hx (fun q => kt q o (by rw [if_pos q] at h9; exact h9) hk) (fun q => kf q o (by rw [if_neg q] at h9; exact h9) hk)
theorem T_if_ge_t {r : Option O} (C : Cx X Y cc own ret Rm tys) {x off : Int} (tgt : Nat) (d : decode cc pc = .ok (.ifCond .ge off, 3)) (ht : (pc : Int) + off = (tgt : Int)) (hx : rng x) (hc : 0 ≤ x) (K : T X Y kp a b tgt L st σ r) : T X Y kp a b pc L (vi x :: st) σ r := fun o h9 hk => J_if_ge C tgt d ht hx (fun _ => K o h9 hk) (fun q => absurd hc q)
theorem T_if_ge_f {r : Option O} (C : Cx X Y cc own ret Rm tys) {x off : Int} (tgt : Nat) (d : decode cc pc = .ok (.ifCond .ge off, 3)) (ht : (pc : Int) + off = (tgt : Int)) (hx : rng x) (hc : ¬ 0 ≤ x) (K : T X Y kp a b (pc + 3) L st σ r) : T X Y kp a b pc L (vi x :: st) σ r := fun o h9 hk => J_if_ge C tgt d ht hx (fun q => absurd q hc) (fun _ => K o h9 hk)
theorem T_if_gt {r1 r2 : Option O} (C : Cx X Y cc own ret Rm tys) {x off : Int} (tgt : Nat) (d : decode cc pc = .ok (.ifCond .gt off, 3)) (ht : (pc : Int) + off = (tgt : Int)) (hx : rng x) (kt : 0 < x → T X Y kp a b tgt L st σ r1) (kf : ¬ 0 < x → T X Y kp a b (pc + 3) L st σ r2) : T X Y kp a b pc L (vi x :: st) σ (if 0 < x then r1 else r2) := fun o h9 hk => J_if_gt C tgt d ht hx (fun q => kt q o (by rw [if_pos q] at h9; exact h9) hk) (fun q => kf q o (by rw [if_neg q] at h9; exact h9) hk)
theorem T_if_gt_t {r : Option O} (C : Cx X Y cc own ret Rm tys) {x off : Int} (tgt : Nat) (d : decode cc pc = .ok (.ifCond .gt off, 3)) (ht : (pc : Int) + off = (tgt : Int)) (hx : rng x) (hc : 0 < x) (K : T X Y kp a b tgt L st σ r) : T X Y kp a b pc L (vi x :: st) σ r := fun o h9 hk => J_if_gt C tgt d ht hx (fun _ => K o h9 hk) (fun q => absurd hc q)
theorem T_if_gt_f {r : Option O} (C : Cx X Y cc own ret Rm tys) {x off : Int} (tgt : Nat) (d : decode cc pc = .ok (.ifCond .gt off, 3)) (ht : (pc : Int) + off = (tgt : Int)) (hx : rng x) (hc : ¬ 0 < x) (K : T X Y kp a b (pc + 3) L st σ r) : T X Y kp a b pc L (vi x :: st) σ r := fun o h9 hk => J_if_gt C tgt d ht hx (fun q => absurd q hc) (fun _ => K o h9 hk)
theorem T_if_le {r1 r2 : Option O} (C : Cx X Y cc own ret Rm tys) {x off : Int} (tgt : Nat) (d : decode cc pc = .ok (.ifCond .le off, 3)) (ht : (pc : Int) + off = (tgt : Int)) (hx : rng x) (kt : x ≤ 0 → T X Y kp a b tgt L st σ r1) (kf : ¬ x ≤ 0 → T X Y kp a b (pc + 3) L st σ r2) : T X Y kp a b pc L (vi x :: st) σ (if x ≤ 0 then r1 else r2) := fun o h9 hk => J_if_le C tgt d ht hx (fun q => kt q o (by rw [if_pos q] at h9; exact h9) hk) (fun q => kf q o (by rw [if_neg q] at h9; exact h9) hk)
theorem T_if_le_t {r : Option O} (C : Cx X Y cc own ret Rm tys) {x off : Int} (tgt : Nat) (d : decode cc pc = .ok (.ifCond .le off, 3)) (ht : (pc : Int) + off = (tgt : Int)) (hx : rng x) (hc : x ≤ 0) (K : T X Y kp a b tgt L st σ r) : T X Y kp a b pc L (vi x :: st) σ r := fun o h9 hk => J_if_le C tgt d ht hx (fun _ => K o h9 hk) (fun q => absurd hc q)
theorem T_if_le_f {r : Option O} (C : Cx X Y cc own ret Rm tys) {x off : Int} (tgt : Nat) (d : decode cc pc = .ok (.ifCond .le off, 3)) (ht : (pc : Int) + off = (tgt : Int)) (hx : rng x) (hc : ¬ x ≤ 0) (K : T X Y kp a b (pc + 3) L st σ r) : T X Y kp a b pc L (vi x :: st) σ r := fun o h9 hk => J_if_le C tgt d ht hx (fun q => absurd q hc) (fun _ => K o h9 hk)
theorem T_icmp_eq {r1 r2 : Option O} (C : Cx X Y cc own ret Rm tys) {x y off : Int} (tgt : Nat) (d : decode cc pc = .ok (.if_icmp .eq off, 3)) (ht : (pc : Int) + off = (tgt : Int)) (hx : rng x) (hy : rng y) (kt : x = y → T X Y kp a b tgt L st σ r1) (kf : ¬ x = y → T X Y kp a b (pc + 3) L st σ r2) : T X Y kp a b pc L (vi y :: vi x :: st) σ (if x = y then r1 else r2) := fun o h9 hk => J_icmp_eq C tgt d ht hx hy (fun q => kt q o (by rw [if_pos q] at h9; exact h9) hk) (fun q => kf q o (by rw [if_neg q] at h9; exact h9) hk)
theorem T_icmp_eq_t {r : Option O} (C : Cx X Y cc own ret Rm tys) {x y off : Int} (tgt : Nat) (d : decode cc pc = .ok (.if_icmp .eq off, 3)) (ht : (pc : Int) + off = (tgt : Int)) (hx : rng x) (hy : rng y) (hc : x = y) (K : T X Y kp a b tgt L st σ r) : T X Y kp a b pc L (vi y :: vi x :: st) σ r := fun o h9 hk => J_icmp_eq C tgt d ht hx hy (fun _ => K o h9 hk) (fun q => absurd hc q)
theorem T_icmp_eq_f {r : Option O} (C : Cx X Y cc own ret Rm tys) {x y off : Int} (tgt : Nat) (d : decode cc pc = .ok (.if_icmp .eq off, 3)) (ht : (pc : Int) + off = (tgt : Int)) (hx : rng x) (hy : rng y) (hc : ¬ x = y) (K : T X Y kp a b (pc + 3) L st σ r) : T X Y kp a b pc L (vi y :: vi x :: st) σ r := fun o h9 hk => J_icmp_eq C tgt d ht hx hy (fun q => absurd q hc) (fun _ => K o h9 hk)
theorem T_icmp_ne {r1 r2 : Option O} (C : Cx X Y cc own ret Rm tys) {x y off : Int} (tgt : Nat) (d : decode cc pc = .ok (.if_icmp .ne off, 3)) (ht : (pc : Int) + off = (tgt : Int)) (hx : rng x) (hy : rng y) (kt : ¬ x = y → T X Y kp a b tgt L st σ r1) (kf : x = y → T X Y kp a b (pc + 3) L st σ r2) : T X Y kp a b pc L (vi y :: vi x :: st) σ (if x = y then r2 else r1) := fun o h9 hk => J_icmp_ne C tgt d ht hx hy (fun q => kt q o (by rw [if_neg q] at h9; exact h9) hk) (fun q => kf q o (by rw [if_pos q] at h9; exact h9) hk)
theorem T_icmp_ne_t {r : Option O} (C : Cx X Y cc own ret Rm tys) {x y off : Int} (tgt : Nat) (d : decode cc pc = .ok (.if_icmp .ne off, 3)) (ht : (pc : Int) + off = (tgt : Int)) (hx : rng x) (hy : rng y) (hc : ¬ x = y) (K : T X Y kp a b tgt L st σ r) : T X Y kp a b pc L (vi y :: vi x :: st) σ r := fun o h9 hk => J_icmp_ne C tgt d ht hx hy (fun _ => K o h9 hk) (fun q => absurd q hc)
theorem T_icmp_ne_f {r : Option O} (C : Cx X Y cc own ret Rm tys) {x y off : Int} (tgt : Nat) (d : decode cc pc = .ok (.if_icmp .ne off, 3)) (ht : (pc : Int) + off = (tgt : Int)) (hx : rng x) (hy : rng y) (hc : x = y) (K : T X Y kp a b (pc + 3) L st σ r) : T X Y kp a b pc L (vi y :: vi x :: st) σ r := fun o h9 hk => J_icmp_ne C tgt d ht hx hy (fun q => absurd hc q) (fun _ => K o h9 hk)
theorem T_icmp_lt {r1 r2 : Option O} (C : Cx X Y cc own ret Rm tys) {x y off : Int} (tgt : Nat) (d : decode cc pc = .ok (.if_icmp .lt off, 3)) (ht : (pc : Int) + off = (tgt : Int)) (hx : rng x) (hy : rng y) (kt : x < y → T X Y kp a b tgt L st σ r1) (kf : ¬ x < y → T X Y kp a b (pc + 3) L st σ r2) : T X Y kp a b pc L (vi y :: vi x :: st) σ (if x < y then r1 else r2) := fun o h9 hk => J_icmp_lt C tgt d ht hx hy (fun q => kt q o (by rw [if_pos q] at h9; exact h9) hk) (fun q => kf q o (by rw [if_neg q] at h9; exact h9) hk)
theorem T_icmp_lt_t {r : Option O} (C : Cx X Y cc own ret Rm tys) {x y off : Int} (tgt : Nat) (d : decode cc pc = .ok (.if_icmp .lt off, 3)) (ht : (pc : Int) + off = (tgt : Int)) (hx : rng x) (hy : rng y) (hc : x < y) (K : T X Y kp a b tgt L st σ r) : T X Y kp a b pc L (vi y :: vi x :: st) σ r := fun o h9 hk => J_icmp_lt C tgt d ht hx hy (fun _ => K o h9 hk) (fun q => absurd hc q)
theorem T_icmp_lt_f {r : Option O} (C : Cx X Y cc own ret Rm tys) {x y off : Int} (tgt : Nat) (d : decode cc pc = .ok (.if_icmp .lt off, 3)) (ht : (pc : Int) + off = (tgt : Int)) (hx : rng x) (hy : rng y) (hc : ¬ x < y) (K : T X Y kp a b (pc + 3) L st σ r) : T X Y kp a b pc L (vi y :: vi x :: st) σ r := fun o h9 hk => J_icmp_lt C tgt d ht hx hy (fun q => absurd q hc) (fun _ => K o h9 hk)
theorem T_icmp_ge {r1 r2 : Option O} (C : Cx X Y cc own ret Rm tys) {x y off : Int} (tgt : Nat) (d : decode cc pc = .ok (.if_icmp .ge off, 3)) (ht : (pc : Int) + off = (tgt : Int)) (hx : rng x) (hy : rng y) (kt : y ≤ x → T X Y kp a b tgt L st σ r1) (kf : ¬ y ≤ x → T X Y kp a b (pc + 3) L st σ r2) : T X Y kp a b pc L (vi y :: vi x :: st) σ (if y ≤ x then r1 else r2) := fun o h9 hk => J_icmp_ge C tgt d ht hx hy (fun q => kt q o (by rw [if_pos q] at h9; exact h9) hk) (fun q => kf q o (by rw [if_neg q] at h9; exact h9) hk)
theorem T_icmp_ge_t {r : Option O} (C : Cx X Y cc own ret Rm tys) {x y off : Int} (tgt : Nat) (d : decode cc pc = .ok (.if_icmp .ge off, 3)) (ht : (pc : Int) + off = (tgt : Int)) (hx : rng x) (hy : rng y) (hc : y ≤ x) (K : T X Y kp a b tgt L st σ r) : T X Y kp a b pc L (vi y :: vi x :: st) σ r := fun o h9 hk => J_icmp_ge C tgt d ht hx hy (fun _ => K o h9 hk) (fun q => absurd hc q)
theorem T_icmp_ge_f {r : Option O} (C : Cx X Y cc own ret Rm tys) {x y off : Int} (tgt : Nat) (d : decode cc pc = .ok (.if_icmp .ge off, 3)) (ht : (pc : Int) + off = (tgt : Int)) (hx : rng x) (hy : rng y) (hc : ¬ y ≤ x) (K : T X Y kp a b (pc + 3) L st σ r) : T X Y kp a b pc L (vi y :: vi x :: st) σ r := fun o h9 hk => J_icmp_ge C tgt d ht hx hy (fun q => absurd q hc) (fun _ => K o h9 hk)
theorem T_icmp_gt {r1 r2 : Option O} (C : Cx X Y cc own ret Rm tys) {x y off : Int} (tgt : Nat) (d : decode cc pc = .ok (.if_icmp .gt off, 3)) (ht : (pc : Int) + off = (tgt : Int)) (hx : rng x) (hy : rng y) (kt : y < x → T X Y kp a b tgt L st σ r1) (kf : ¬ y < x → T X Y kp a b (pc + 3) L st σ r2) : T X Y kp a b pc L (vi y :: vi x :: st) σ (if y < x then r1 else r2) := fun o h9 hk => J_icmp_gt C tgt d ht hx hy (fun q => kt q o (by rw [if_pos q] at h9; exact h9) hk) (fun q => kf q o (by rw [if_neg q] at h9; exact h9) hk)
theorem T_icmp_gt_t {r : Option O} (C : Cx X Y cc own ret Rm tys) {x y off : Int} (tgt : Nat) (d : decode cc pc = .ok (.if_icmp .gt off, 3)) (ht : (pc : Int) + off = (tgt : Int)) (hx : rng x) (hy : rng y) (hc : y < x) (K : T X Y kp a b tgt L st σ r) : T X Y kp a b pc L (vi y :: vi x :: st) σ r := fun o h9 hk => J_icmp_gt C tgt d ht hx hy (fun _ => K o h9 hk) (fun q => absurd hc q)
theorem T_icmp_gt_f {r : Option O} (C : Cx X Y cc own ret Rm tys) {x y off : Int} (tgt : Nat) (d : decode cc pc = .ok (.if_icmp .gt off, 3)) (ht : (pc : Int) + off = (tgt : Int)) (hx : rng x) (hy : rng y) (hc : ¬ y < x) (K : T X Y kp a b (pc + 3) L st σ r) : T X Y kp a b pc L (vi y :: vi x :: st) σ r := fun o h9 hk => J_icmp_gt C tgt d ht hx hy (fun q => absurd q hc) (fun _ => K o h9 hk)
theorem T_icmp_le {r1 r2 : Option O} (C : Cx X Y cc own ret Rm tys) {x y off : Int} (tgt : Nat) (d : decode cc pc = .ok (.if_icmp .le off, 3)) (ht : (pc : Int) + off = (tgt : Int)) (hx : rng x) (hy : rng y) (kt : x ≤ y → T X Y kp a b tgt L st σ r1) (kf : ¬ x ≤ y → T X Y kp a b (pc + 3) L st σ r2) : T X Y kp a b pc L (vi y :: vi x :: st) σ (if x ≤ y then r1 else r2) := fun o h9 hk => J_icmp_le C tgt d ht hx hy (fun q => kt q o (by rw [if_pos q] at h9; exact h9) hk) (fun q => kf q o (by rw [if_neg q] at h9; exact h9) hk)
theorem T_icmp_le_t {r : Option O} (C : Cx X Y cc own ret Rm tys) {x y off : Int} (tgt : Nat) (d : decode cc pc = .ok (.if_icmp .le off, 3)) (ht : (pc : Int) + off = (tgt : Int)) (hx : rng x) (hy : rng y) (hc : x ≤ y) (K : T X Y kp a b tgt L st σ r) : T X Y kp a b pc L (vi y :: vi x :: st) σ r := fun o h9 hk => J_icmp_le C tgt d ht hx hy (fun _ => K o h9 hk) (fun q => absurd hc q)
theorem T_icmp_le_f {r : Option O} (C : Cx X Y cc own ret Rm tys) {x y off : Int} (tgt : Nat) (d : decode cc pc = .ok (.if_icmp .le off, 3)) (ht : (pc : Int) + off = (tgt : Int)) (hx : rng x) (hy : rng y) (hc : ¬ x ≤ y) (K : T X Y kp a b (pc + 3) L st σ r) : T X Y kp a b pc L (vi y :: vi x :: st) σ r := fun o h9 hk => J_icmp_le C tgt d ht hx hy (fun q => absurd q hc) (fun _ => K o h9 hk)

/-- a loop (or any piece whose own end is kl), and what comes behind it -/
theorem T_loop {P : Type} {kl : P → Prop} {f : Option P} {k : P → Option O} (hl : T X Y kl a b pc L st σ f) (hk : ∀ (q : P) (o : O), f = some q → k q = some o → kp o → kl q) : T X Y kp a b pc L st σ (f.bind k) := fun o h ho => by
  obtain ⟨q, hq, h2⟩ := Option.bind_eq_some_iff.mp h
  exact hl q hq (hk q o hq h2 ho)
theorem T_exit {w : O} (h : kp w → J X Y a b pc L st σ) : T X Y kp a b pc L st σ (some w) := fun o e hk => by
  cases e
  exact h hk
end TR
/-- at the method's end, with o.2 on the stack and the state o.1 -/
def EndI {S : Type} (X : vjX) (Y : vjY S) (cc : ByteArray) (Rm : Room) (ty : FieldType) (o : S × Int) : Prop := ∀ (pc : Nat) (L : List (Nat × Value)), decode cc pc = .ok (.ireturn, 1) → rng o.2 → narrow ty (vi o.2) = vi o.2 → J X Y Rm.cells Rm.slots pc L [vi o.2] o.1
def EndV {S : Type} (X : vjX) (Y : vjY S) (cc : ByteArray) (Rm : Room) (o : S) : Prop := ∀ (pc : Nat) (L : List (Nat × Value)), decode cc pc = .ok (.return_, 1) → J X Y Rm.cells Rm.slots pc L [] o
theorem nar_I (z : Int) : narrow .int (vi z) = vi z := rfl
theorem nar_Z {z : Int} (h : bit z) : narrow .boolean (vi z) = vi z := by rcases h with rfl | rfl <;> rfl
def preJ {S : Type} (wl : S → va_W) (G : va_G) (tys : List (ClassId × FieldType)) (sz : Nat) (σ : S) : State → Prop := fun U => U.heap.size = sz ∧ va_P G vwCl (wl σ) U.heap ∧ va_K G vwCl tys U ∧ va_D (fun _ => True) (wl σ)
theorem preJ_blind {S : Type} {wl : S → va_W} {G : va_G} {tys : List (ClassId × FieldType)} {sz : Nat} {σ : S} {av : List Value} : FrameBlind (va_Pc av (preJ wl G tys sz σ)) := fun a U g mk q => by
  obtain ⟨q0, q1, qP, qK, qD⟩ := q
  exact ⟨q0, q1, qP, va_K.moved (u := U) (U := U.calling g mk a) (Vm.Alike.refl U.vm) qK, qD⟩
def nar (ret : Option FieldType) (v : Int) : Prop := ∀ ty, ret = some ty → narrow ty (vi v) = vi v
def CtI {S : Type} (l : Launch) (y : MethodName) (cc : ByteArray) (maxL : Nat) (ret : Option FieldType) (rm : Room) (wl : S → va_W) (wf : S → Prop) (G : va_G) (tys : List (ClassId × FieldType)) (av : List Value) (σ σ' : S) (v : Int) : Prop :=
  ∀ sz : Nat, Met l y (Cond.code y cc maxL ret :: lwG) rm (va_Pc av (preJ wl G tys sz σ)) (va_Qi (fun (r : Int32) (_ : Unit) => r = Int32.ofInt v ∧ (rng v ∧ nar ret v) ∧ wf σ') (fun _ t => va_P G vwCl (wl σ') t.heap ∧ va_D (va_A (wl σ) sz) (wl σ')) (va_A (wl σ) sz)) rm.cells rm.slots (va_A (wl σ) sz)
def CtV {S : Type} (l : Launch) (y : MethodName) (cc : ByteArray) (maxL : Nat) (rm : Room) (wl : S → va_W) (wf : S → Prop) (G : va_G) (tys : List (ClassId × FieldType)) (av : List Value) (σ σ' : S) : Prop :=
  ∀ sz : Nat, Met l y (Cond.code y cc maxL none :: lwG) rm (va_Pc av (preJ wl G tys sz σ)) (va_Qv (fun (_ : Unit) => wf σ') (fun _ t => va_P G vwCl (wl σ') t.heap ∧ va_D (va_A (wl σ) sz) (wl σ')) (va_A (wl σ) sz)) rm.cells rm.slots (va_A (wl σ) sz)
section CT
variable {S O : Type} {l : Launch} {y : MethodName} {cc : ByteArray} {maxL : Nat} {rm : Room} {wl : S → va_W} {wf : S → Prop} {G : va_G} {tys : List (ClassId × FieldType)} {av : List Value} {σ : S}
theorem ctI_of {ty : FieldType} (hy : plainName y.cls = true) (hf : (lg_sl av).length ≤ maxL) (hw : wf σ) (o : S × Int) {r : Option O} (w : O) (hr : r = some w) (kp : vjX → vjY S → O → Prop) (hkp : ∀ X Y, EndI X Y cc rm ty o → kp X Y w)
    (body : ∀ (X : vjX) (A : Nat → Prop) (Q : State → Prop), X.2.1 = l → Cx X (wl, wf, G, A, maxL, Q) cc y.cls (some ty) rm tys → T X (wl, wf, G, A, maxL, Q) (kp X (wl, wf, G, A, maxL, Q)) 0 0 0 (lv_args 0 av) [] σ r) :
    CtI l y cc maxL (some ty) rm wl wf G tys av σ o.1 o.2 := by
  intro sz
  refine Met.ofW (cc := cc) (maxL := maxL) (ret := some ty) hy rfl ?_
  intro p e s m args below meth c s₁ B hml hv
  obtain ⟨rfl, hsz, hP, hK, hD0⟩ := hv
  have hts := atoms_spec (ws := Cond.code y cc maxL (some ty) :: lwG) B.pre
  subst hsz
  have hD := hD0.self (sz := s.heap.size)
  have hl := lv_entry av (n := maxL) hf
  rw [lg_entry_eq]
  refine body (p, l, e, (headSpec (Cond.code y cc maxL (some ty) :: lwG) rm).room, s, m, av.toArray, below, meth, c) (va_A (wl σ) s.heap.size) _ rfl ⟨B.exec, B.bytes, hml, findClass_of_methodNamed B.named, fun w h => hts w (List.mem_cons_of_mem _ h), hK, fun q h => Or.inr h, B.notSynchronized, rfl, B.returns⟩ w hr (hkp _ _ ?_) s.heap [] _ hP hD va_S.rf hw hl
  intro pc L d hrg hn H locs ls hP hD hS hw hl
  exact W.zret (v := Int32.ofInt o.2) B.exec B.bytes B.returns hn (fun t ht hW => ⟨⟨Int32.ofInt o.2, (), rfl, ⟨rfl, ⟨hrg, fun ty' e' => by cases e'; exact hn⟩, hw⟩, by rw [ht]; exact hP, hD⟩, hS.F ht⟩) hS.2.2 d B.notSynchronized
theorem ctV_of (hy : plainName y.cls = true) (hf : (lg_sl av).length ≤ maxL) (hw : wf σ) (o : S) {r : Option O} (w : O) (hr : r = some w) (kp : vjX → vjY S → O → Prop) (hkp : ∀ X Y, EndV X Y cc rm o → kp X Y w)
    (body : ∀ (X : vjX) (A : Nat → Prop) (Q : State → Prop), X.2.1 = l → Cx X (wl, wf, G, A, maxL, Q) cc y.cls none rm tys → T X (wl, wf, G, A, maxL, Q) (kp X (wl, wf, G, A, maxL, Q)) 0 0 0 (lv_args 0 av) [] σ r) :
    CtV l y cc maxL rm wl wf G tys av σ o := by
  intro sz
  refine Met.ofW (cc := cc) (maxL := maxL) (ret := none) hy rfl ?_
  intro p e s m args below meth c s₁ B hml hv
  obtain ⟨rfl, hsz, hP, hK, hD0⟩ := hv
  have hts := atoms_spec (ws := Cond.code y cc maxL none :: lwG) B.pre
  subst hsz
  have hD := hD0.self (sz := s.heap.size)
  have hl := lv_entry av (n := maxL) hf
  rw [lg_entry_eq]
  refine body (p, l, e, (headSpec (Cond.code y cc maxL none :: lwG) rm).room, s, m, av.toArray, below, meth, c) (va_A (wl σ) s.heap.size) _ rfl ⟨B.exec, B.bytes, hml, findClass_of_methodNamed B.named, fun w h => hts w (List.mem_cons_of_mem _ h), hK, fun q h => Or.inr h, B.notSynchronized, rfl, B.returns⟩ w hr (hkp _ _ ?_) s.heap [] _ hP hD va_S.rf hw hl
  intro pc L d H locs ls hP hD hS hw hl
  exact W.vret B.exec B.bytes B.returns (fun t ht hW => ⟨⟨(), rfl, hw, by rw [ht]; exact hP, hD⟩, hS.F ht⟩) hS.2.2 d B.notSynchronized
end CT
/-- what the tables say of a method that is called -/
def cmV (y : MethodName) (cc : ByteArray) (maxL : Nat) (ret : Option FieldType) (n : Nat) : Prop := Cond.code y cc maxL ret ∈ lwG ∧ Cond.initialized y.cls ∈ lwG ∧ (y.cls ≠ "java/lang/invoke/MethodHandle" ∧ y.cls ≠ "java/lang/invoke/VarHandle" ∧ (parseMethodDescriptor y.desc).map (fun d => d.parameters.length) = some n) ∧ Cond.instanceMethod y ∈ lwG ∧ Cond.selects y.cls y y ∈ lwG
def cmS (y : MethodName) (cc : ByteArray) (maxL : Nat) (ret : Option FieldType) (n : Nat) : Prop := Cond.code y cc maxL ret ∈ lwG ∧ Cond.initialized y.cls ∈ lwG ∧ (y.cls ≠ "java/lang/invoke/MethodHandle" ∧ y.cls ≠ "java/lang/invoke/VarHandle" ∧ (parseMethodDescriptor y.desc).map (fun d => d.parameters.length) = some n) ∧ Cond.static y ∈ lwG
/-- the receiver is an object of the world, of that class -/
def va_Rc (ws : va_W) (q : Nat) (C : String) : Prop := ∃ (q0 ci : Nat) (fs : List Value) (T : u_T) (N : Nat), ws[q0]? = some (q, .inr (ci, fs)) ∧ vwCl[ci]? = some (C, T, N)
abbrev rmFit (rm Rm : Room) (maxL a b : Nat) : Prop := (rm.frames + 1 ≤ Rm.frames ∧ 8 + (maxL + 11) + rm.locals ≤ Rm.locals) ∧ a + rm.cells ≤ Rm.cells ∧ b + rm.slots ≤ Rm.slots
section CALLS
variable {S O : Type} {X : vjX} {Y : vjY S} {kp : O → Prop} {cc : ByteArray} {own : String} {ret : Option FieldType} {Rm : Room} {tys : List (ClassId × FieldType)} {a b pc : Nat} {L L' : List (Nat × Value)} {st : List Value} {σ : S}
variable {y : MethodName} {ccy : ByteArray} {maxL : Nat} {rety : Option FieldType} {rm : Room} {idx n : Nat}
theorem callFree {A : Nat → Prop} {ws : va_W} {H0 H : Heap} {locs : List Loc} (hA : ∀ q : Nat, H0.size ≤ q → A q) (hD : va_D A ws) (hS : va_S A H0 H locs) : ∀ q, va_A ws H.size q → A q := by
  intro q h
  rcases h with ⟨k, e, h⟩ | h
  · exact hD.2 k (q, e) h
  · exact hA q (Nat.le_trans hS.1 h)
theorem J_callVi (C : Cx X Y cc own ret Rm tys) (As rest : List Value) (o : S × Int) {q : Nat} (ct : Y.2.1 σ → CtI X.2.1 y ccy maxL rety rm Y.1 Y.2.1 Y.2.2.1 tys (.ref q :: As) σ o.1 o.2) (hlink : Cond.methodLink own idx y ∈ lwG) (hm : cmV y ccy maxL rety n) (hrc : va_Rc (Y.1 σ) q y.cls) (hn : As.length = n) (hst : st = As.reverse ++ .ref q :: rest) (hcat : (rest.map fun v => v.category).sum ≤ 8) (hR : rmFit rm Rm maxL a b) {a' b' : Nat} (hab : a + rm.cells = a' ∧ b + rm.slots = b')
    (d : decode cc pc = .ok (.invokevirtual idx, 3)) (K : rng o.2 ∧ nar rety o.2 → J X Y a' b' (pc + 3) L (vi o.2 :: rest) o.1) : J X Y a b pc L st σ := by
  intro H locs ls hP hD hS hw hl
  obtain ⟨hx, hb, hml, hown, hts, hK, hA, -, hRm, -⟩ := C
  obtain ⟨m1, m2, m3, m4, m5⟩ := hm
  obtain ⟨⟨r1, r2⟩, r3, r4⟩ := hR
  obtain ⟨rfl, rfl⟩ := hab
  have hF := callFree hA hD hS
  obtain ⟨q0, ci, fs, T0, N0, e1, e2⟩ := hrc
  subst hst
  refine va_calli (va_runV (As := As) (rest := rest) ⟨hx, hb, hml, hown, hts⟩ (ct hw H.size) ⟨callB_of n hts (lwG_good m1) rfl rfl rfl (hts _ m2) (hts _ hlink) m3 (by rw [hRm]; exact ⟨r1, r2⟩), hts _ m4, hts _ m5⟩ ⟨preJ_blind, va_recv hK hP e2 e1, fun U hU hW => ⟨rfl, by rw [hU], by rw [hU]; exact hP, va_K.moved hW.alike hK, hD.weaken (fun _ _ _ _ => trivial)⟩⟩ rfl hn hl.1 rfl (lv_room hcat) d (by rw [hRm]; exact ⟨r3, r4⟩)) hS (fun q _ h => hF q h) hF (fun r u t H1 locs1 ht hvm hw1 hB hz hk hS1 => ?_)
  obtain ⟨rfl, hr, hwf⟩ := hw1
  obtain ⟨hP1, hD1⟩ := hB
  rw [ht] at hP1
  exact K hr H1 locs1 ls hP1 (hD1.weaken (fun _ q _ h => hF q.1 h)) hS1 hwf hl
theorem J_callSi (C : Cx X Y cc own ret Rm tys) (As rest : List Value) (o : S × Int) (ct : Y.2.1 σ → CtI X.2.1 y ccy maxL rety rm Y.1 Y.2.1 Y.2.2.1 tys As σ o.1 o.2) (hlink : Cond.methodLink own idx y ∈ lwG) (hm : cmS y ccy maxL rety n) (hn : As.length = n) (hst : st = As.reverse ++ rest) (hcat : (rest.map fun v => v.category).sum ≤ 8) (hR : rmFit rm Rm maxL a b) {a' b' : Nat} (hab : a + rm.cells = a' ∧ b + rm.slots = b')
    (d : decode cc pc = .ok (.invokestatic idx, 3)) (K : rng o.2 ∧ nar rety o.2 → J X Y a' b' (pc + 3) L (vi o.2 :: rest) o.1) : J X Y a b pc L st σ := by
  intro H locs ls hP hD hS hw hl
  obtain ⟨hx, hb, hml, hown, hts, hK, hA, -, hRm, -⟩ := C
  obtain ⟨m1, m2, m3, m4⟩ := hm
  obtain ⟨⟨r1, r2⟩, r3, r4⟩ := hR
  obtain ⟨rfl, rfl⟩ := hab
  have hF := callFree hA hD hS
  subst hst
  refine va_calli (va_runS (As := As) (rest := rest) ⟨hx, hb, hml, hown, hts⟩ (ct hw H.size) ⟨callB_of n hts (lwG_good m1) rfl rfl rfl (hts _ m2) (hts _ hlink) m3 (by rw [hRm]; exact ⟨r1, r2⟩), hts _ m4⟩ ⟨preJ_blind, fun U hU hW => ⟨rfl, by rw [hU], by rw [hU]; exact hP, va_K.moved hW.alike hK, hD.weaken (fun _ _ _ _ => trivial)⟩⟩ rfl hn hl.1 rfl (lv_room hcat) d (by rw [hRm]; exact ⟨r3, r4⟩)) hS (fun q _ h => hF q h) hF (fun r u t H1 locs1 ht hvm hw1 hB hz hk hS1 => ?_)
  obtain ⟨rfl, hr, hwf⟩ := hw1
  obtain ⟨hP1, hD1⟩ := hB
  rw [ht] at hP1
  exact K hr H1 locs1 ls hP1 (hD1.weaken (fun _ q _ h => hF q.1 h)) hS1 hwf hl
theorem J_callVv (C : Cx X Y cc own ret Rm tys) (As rest : List Value) (o : S) {q : Nat} (ct : Y.2.1 σ → CtV X.2.1 y ccy maxL rm Y.1 Y.2.1 Y.2.2.1 tys (.ref q :: As) σ o) (hlink : Cond.methodLink own idx y ∈ lwG) (hm : cmV y ccy maxL none n) (hrc : va_Rc (Y.1 σ) q y.cls) (hn : As.length = n) (hst : st = As.reverse ++ .ref q :: rest) (hcat : (rest.map fun v => v.category).sum ≤ 8) (hR : rmFit rm Rm maxL a b) {a' b' : Nat} (hab : a + rm.cells = a' ∧ b + rm.slots = b')
    (d : decode cc pc = .ok (.invokevirtual idx, 3)) (K : J X Y a' b' (pc + 3) L rest o) : J X Y a b pc L st σ := by
  intro H locs ls hP hD hS hw hl
  obtain ⟨hx, hb, hml, hown, hts, hK, hA, -, hRm, -⟩ := C
  obtain ⟨m1, m2, m3, m4, m5⟩ := hm
  obtain ⟨⟨r1, r2⟩, r3, r4⟩ := hR
  obtain ⟨rfl, rfl⟩ := hab
  have hF := callFree hA hD hS
  obtain ⟨q0, ci, fs, T0, N0, e1, e2⟩ := hrc
  subst hst
  refine va_callv (va_runV (As := As) (rest := rest) ⟨hx, hb, hml, hown, hts⟩ (ct hw H.size) ⟨callB_of n hts (lwG_good m1) rfl rfl rfl (hts _ m2) (hts _ hlink) m3 (by rw [hRm]; exact ⟨r1, r2⟩), hts _ m4, hts _ m5⟩ ⟨preJ_blind, va_recv hK hP e2 e1, fun U hU hW => ⟨rfl, by rw [hU], by rw [hU]; exact hP, va_K.moved hW.alike hK, hD.weaken (fun _ _ _ _ => trivial)⟩⟩ rfl hn hl.1 rfl (lv_room hcat) d (by rw [hRm]; exact ⟨r3, r4⟩)) hS (fun q _ h => hF q h) hF (fun u t H1 locs1 ht hvm hwf hB hz hk hS1 => ?_)
  obtain ⟨hP1, hD1⟩ := hB
  rw [ht] at hP1
  exact K H1 locs1 ls hP1 (hD1.weaken (fun _ q _ h => hF q.1 h)) hS1 hwf hl
theorem J_callSv (C : Cx X Y cc own ret Rm tys) (As rest : List Value) (o : S) (ct : Y.2.1 σ → CtV X.2.1 y ccy maxL rm Y.1 Y.2.1 Y.2.2.1 tys As σ o) (hlink : Cond.methodLink own idx y ∈ lwG) (hm : cmS y ccy maxL none n) (hn : As.length = n) (hst : st = As.reverse ++ rest) (hcat : (rest.map fun v => v.category).sum ≤ 8) (hR : rmFit rm Rm maxL a b) {a' b' : Nat} (hab : a + rm.cells = a' ∧ b + rm.slots = b')
    (d : decode cc pc = .ok (.invokestatic idx, 3)) (K : J X Y a' b' (pc + 3) L rest o) : J X Y a b pc L st σ := by
  intro H locs ls hP hD hS hw hl
  obtain ⟨hx, hb, hml, hown, hts, hK, hA, -, hRm, -⟩ := C
  obtain ⟨m1, m2, m3, m4⟩ := hm
  obtain ⟨⟨r1, r2⟩, r3, r4⟩ := hR
  obtain ⟨rfl, rfl⟩ := hab
  have hF := callFree hA hD hS
  subst hst
  refine va_callv (va_runS (As := As) (rest := rest) ⟨hx, hb, hml, hown, hts⟩ (ct hw H.size) ⟨callB_of n hts (lwG_good m1) rfl rfl rfl (hts _ m2) (hts _ hlink) m3 (by rw [hRm]; exact ⟨r1, r2⟩), hts _ m4⟩ ⟨preJ_blind, fun U hU hW => ⟨rfl, by rw [hU], by rw [hU]; exact hP, va_K.moved hW.alike hK, hD.weaken (fun _ _ _ _ => trivial)⟩⟩ rfl hn hl.1 rfl (lv_room hcat) d (by rw [hRm]; exact ⟨r3, r4⟩)) hS (fun q _ h => hF q h) hF (fun u t H1 locs1 ht hvm hwf hB hz hk hS1 => ?_)
  obtain ⟨hP1, hD1⟩ := hB
  rw [ht] at hP1
  exact K H1 locs1 ls hP1 (hD1.weaken (fun _ q _ h => hF q.1 h)) hS1 hwf hl
theorem T_callVi (C : Cx X Y cc own ret Rm tys) (As rest : List Value) {q : Nat} {f : Option (S × Int)} {k : S × Int → Option O} (ct : ∀ o, f = some o → Y.2.1 σ → CtI X.2.1 y ccy maxL rety rm Y.1 Y.2.1 Y.2.2.1 tys (.ref q :: As) σ o.1 o.2) (hlink : Cond.methodLink own idx y ∈ lwG) (hm : cmV y ccy maxL rety n) (hrc : va_Rc (Y.1 σ) q y.cls) (hn : As.length = n) (hst : st = As.reverse ++ .ref q :: rest) (hcat : (rest.map fun v => v.category).sum ≤ 8) (hR : rmFit rm Rm maxL a b) {a' b' : Nat} (hab : a + rm.cells = a' ∧ b + rm.slots = b')
    (d : decode cc pc = .ok (.invokevirtual idx, 3)) (K : ∀ o : S × Int, rng o.2 ∧ nar rety o.2 → T X Y kp a' b' (pc + 3) L (vi o.2 :: rest) o.1 (k o)) : T X Y kp a b pc L st σ (f.bind k) := fun w h hk => by
  obtain ⟨o, ho, h2⟩ := Option.bind_eq_some_iff.mp h
  exact J_callVi C As rest o (ct o ho) hlink hm hrc hn hst hcat hR hab d (fun hr => K o hr w h2 hk)
theorem T_callVip (C : Cx X Y cc own ret Rm tys) (As rest : List Value) {q : Nat} {f : Option Int} {k : Int → Option O} (ct : ∀ v, f = some v → Y.2.1 σ → CtI X.2.1 y ccy maxL rety rm Y.1 Y.2.1 Y.2.2.1 tys (.ref q :: As) σ σ v) (hlink : Cond.methodLink own idx y ∈ lwG) (hm : cmV y ccy maxL rety n) (hrc : va_Rc (Y.1 σ) q y.cls) (hn : As.length = n) (hst : st = As.reverse ++ .ref q :: rest) (hcat : (rest.map fun v => v.category).sum ≤ 8) (hR : rmFit rm Rm maxL a b) {a' b' : Nat} (hab : a + rm.cells = a' ∧ b + rm.slots = b')
    (d : decode cc pc = .ok (.invokevirtual idx, 3)) (K : ∀ v : Int, rng v ∧ nar rety v → T X Y kp a' b' (pc + 3) L (vi v :: rest) σ (k v)) : T X Y kp a b pc L st σ (f.bind k) := fun w h hk => by
  obtain ⟨v, hv, h2⟩ := Option.bind_eq_some_iff.mp h
  exact J_callVi C As rest (σ, v) (ct v hv) hlink hm hrc hn hst hcat hR hab d (fun hr => K v hr w h2 hk)
theorem T_callSi (C : Cx X Y cc own ret Rm tys) (As rest : List Value) {f : Option (S × Int)} {k : S × Int → Option O} (ct : ∀ o, f = some o → Y.2.1 σ → CtI X.2.1 y ccy maxL rety rm Y.1 Y.2.1 Y.2.2.1 tys As σ o.1 o.2) (hlink : Cond.methodLink own idx y ∈ lwG) (hm : cmS y ccy maxL rety n) (hn : As.length = n) (hst : st = As.reverse ++ rest) (hcat : (rest.map fun v => v.category).sum ≤ 8) (hR : rmFit rm Rm maxL a b) {a' b' : Nat} (hab : a + rm.cells = a' ∧ b + rm.slots = b')
    (d : decode cc pc = .ok (.invokestatic idx, 3)) (K : ∀ o : S × Int, rng o.2 ∧ nar rety o.2 → T X Y kp a' b' (pc + 3) L (vi o.2 :: rest) o.1 (k o)) : T X Y kp a b pc L st σ (f.bind k) := fun w h hk => by
  obtain ⟨o, ho, h2⟩ := Option.bind_eq_some_iff.mp h
  exact J_callSi C As rest o (ct o ho) hlink hm hn hst hcat hR hab d (fun hr => K o hr w h2 hk)
theorem T_callSip (C : Cx X Y cc own ret Rm tys) (As rest : List Value) {f : Option Int} {k : Int → Option O} (ct : ∀ v, f = some v → Y.2.1 σ → CtI X.2.1 y ccy maxL rety rm Y.1 Y.2.1 Y.2.2.1 tys As σ σ v) (hlink : Cond.methodLink own idx y ∈ lwG) (hm : cmS y ccy maxL rety n) (hn : As.length = n) (hst : st = As.reverse ++ rest) (hcat : (rest.map fun v => v.category).sum ≤ 8) (hR : rmFit rm Rm maxL a b) {a' b' : Nat} (hab : a + rm.cells = a' ∧ b + rm.slots = b')
    (d : decode cc pc = .ok (.invokestatic idx, 3)) (K : ∀ v : Int, rng v ∧ nar rety v → T X Y kp a' b' (pc + 3) L (vi v :: rest) σ (k v)) : T X Y kp a b pc L st σ (f.bind k) := fun w h hk => by
  obtain ⟨v, hv, h2⟩ := Option.bind_eq_some_iff.mp h
  exact J_callSi C As rest (σ, v) (ct v hv) hlink hm hn hst hcat hR hab d (fun hr => K v hr w h2 hk)
theorem T_callVv (C : Cx X Y cc own ret Rm tys) (As rest : List Value) {q : Nat} {f : Option S} {k : S → Option O} (ct : ∀ o, f = some o → Y.2.1 σ → CtV X.2.1 y ccy maxL rm Y.1 Y.2.1 Y.2.2.1 tys (.ref q :: As) σ o) (hlink : Cond.methodLink own idx y ∈ lwG) (hm : cmV y ccy maxL none n) (hrc : va_Rc (Y.1 σ) q y.cls) (hn : As.length = n) (hst : st = As.reverse ++ .ref q :: rest) (hcat : (rest.map fun v => v.category).sum ≤ 8) (hR : rmFit rm Rm maxL a b) {a' b' : Nat} (hab : a + rm.cells = a' ∧ b + rm.slots = b')
    (d : decode cc pc = .ok (.invokevirtual idx, 3)) (K : ∀ o : S, T X Y kp a' b' (pc + 3) L rest o (k o)) : T X Y kp a b pc L st σ (f.bind k) := fun w h hk => by
  obtain ⟨o, ho, h2⟩ := Option.bind_eq_some_iff.mp h
  exact J_callVv C As rest o (ct o ho) hlink hm hrc hn hst hcat hR hab d (K o w h2 hk)
theorem T_callSv (C : Cx X Y cc own ret Rm tys) (As rest : List Value) {f : Option S} {k : S → Option O} (ct : ∀ o, f = some o → Y.2.1 σ → CtV X.2.1 y ccy maxL rm Y.1 Y.2.1 Y.2.2.1 tys As σ o) (hlink : Cond.methodLink own idx y ∈ lwG) (hm : cmS y ccy maxL none n) (hn : As.length = n) (hst : st = As.reverse ++ rest) (hcat : (rest.map fun v => v.category).sum ≤ 8) (hR : rmFit rm Rm maxL a b) {a' b' : Nat} (hab : a + rm.cells = a' ∧ b + rm.slots = b')
    (d : decode cc pc = .ok (.invokestatic idx, 3)) (K : ∀ o : S, T X Y kp a' b' (pc + 3) L rest o (k o)) : T X Y kp a b pc L st σ (f.bind k) := fun w h hk => by
  obtain ⟨o, ho, h2⟩ := Option.bind_eq_some_iff.mp h
  exact J_callSv C As rest o (ct o ho) hlink hm hn hst hcat hR hab d (K o w h2 hk)
/-- the method's ends -/
theorem T_iret {ty : FieldType} {v : Int} (w : O) (hk : kp w → EndI X Y cc Rm ty (σ, v)) (hr : rng v) (hn : narrow ty (vi v) = vi v) (hc : a ≤ Rm.cells ∧ b ≤ Rm.slots) (d : decode cc pc = .ok (.ireturn, 1)) : T X Y kp a b pc L [vi v] σ (some w) := fun o h hko => by
  cases h
  exact fun H locs ls hP hD hS hw hl => W.widen hc.1 hc.2 (hk hko pc L d hr hn H locs ls hP hD hS hw hl)
theorem T_vret (w : O) (hk : kp w → EndV X Y cc Rm σ) (hc : a ≤ Rm.cells ∧ b ≤ Rm.slots) (d : decode cc pc = .ok (.return_, 1)) : T X Y kp a b pc L [] σ (some w) := fun o h hko => by
  cases h
  exact fun H locs ls hP hD hS hw hl => W.widen hc.1 hc.2 (hk hko pc L d H locs ls hP hD hS hw hl)
end CALLS
