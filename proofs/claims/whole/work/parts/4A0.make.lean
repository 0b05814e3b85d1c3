/-! MAKING OBJECTS: the state is the list of cells itself; a cell that is made comes last -/
theorem va_RA_un {U : State} {c1 c2 : ClassId} {ty : FieldType} (h1 : va_RA U c1 ty) (h2 : va_RA U c2 ty) : c1 = c2 := by
  cases ty with
  | object C =>
    obtain ⟨_, _, _, _, _, e1⟩ := h1
    obtain ⟨_, _, _, _, _, e2⟩ := h2
    exact Option.some.inj (e1.symm.trans e2)
  | _ => exact Option.some.inj (h1.symm.trans h2)
abbrev YE (G : va_G) (A : Nat → Prop) (nL : Nat) (Q : State → Prop) : vjY va_W := (fun w => w, fun _ => True, G, A, nL, Q)
def aoL : List String := ["RingTransit$Line", "RingTransit$Ticket", "RingTransit$Network", "RingTransit$Command"]
def nkL : List Cond := [.methodLinkNest "RingTransit$Tickets" 33 yX10_init "RingTransit", .methodLinkNest "RingTransit$Network" 52 yX7_init "RingTransit", .methodLinkNest "RingTransit" 35 yX1_init "RingTransit", .methodLinkNest "RingTransit" 45 yX2_init "RingTransit", .methodLinkNest "RingTransit" 52 yX5_init "RingTransit"]
def ZM (Z : vZ) : Prop := ∀ (A : Nat → Prop) (U : State) (H : Heap), Z A U H → (∀ C ∈ aoL, va_AO C U) ∧ ∀ w ∈ nkL, va_Nw w U
def EndM (X : vjX) (Y : vjY va_W) (cc : ByteArray) (Rm : Room) (R : va_W → Prop) : Prop := ∀ (pc : Nat) (L : List (Nat × Value)) (w : va_W), decode cc pc = .ok (.return_, 1) → R w → J X Y Rm.cells Rm.slots pc L [] w
def MkV (Z : vZ) (l : Launch) (y : MethodName) (cc : ByteArray) (maxL : Nat) (rm : Room) (G : va_G) (tys : List (ClassId × FieldType)) (av : List Value) (w : va_W) (R : va_W → Prop) : Prop :=
  ∀ sz : Nat, Met l y (Cond.code y cc maxL none :: lwG) rm (va_Pc av (preZ Z (fun w => w) G tys sz w)) (va_Qv (fun (w' : va_W) => R w') (fun w' t => va_P G vwCl w' t.heap ∧ va_D (va_A w sz) w') (va_A w sz)) rm.cells rm.slots (va_A w sz)
theorem mkV_of {Z : vZ} {l : Launch} {y : MethodName} {cc : ByteArray} {maxL : Nat} {rm : Room} {G : va_G} {tys : List (ClassId × FieldType)} {av : List Value} {w : va_W} {R : va_W → Prop} (hy : plainFor y = true) (hf : (lg_sl av).length ≤ maxL) (hin : y.name = "<init>")
    (body : ∀ (X : vjX) (A : Nat → Prop) (Q : State → Prop), Zx Z X (YE G A maxL Q) → X.2.1 = l → X.2.2.2.2.2.2.2.2.1.name = "<init>" → Cx X (YE G A maxL Q) cc y.cls none rm tys → EndM X (YE G A maxL Q) cc rm R → J X (YE G A maxL Q) 0 0 0 (lv_args 0 av) [] w) :
    MkV Z l y cc maxL rm G tys av w R := by
  intro sz
  refine va_MetF (cc := cc) (maxL := maxL) (ret := none) hy rfl ?_
  intro p e s m args below meth c s₁ B hml hv
  obtain ⟨rfl, ⟨hsz, hP, hK, hD0⟩, hZ⟩ := hv
  have hts := atoms_spec (ws := Cond.code y cc maxL none :: lwG) B.pre
  have hnm : meth.name = "<init>" := (name_of_methodNamed B.named B.method).1.trans hin
  subst hsz
  have hD := hD0.self (sz := s.heap.size)
  have hl := lv_entry av (n := maxL) hf
  rw [lg_entry_eq]
  refine body (p, l, e, (headSpec (Cond.code y cc maxL none :: lwG) rm).room, s, m, av.toArray, below, meth, c) (va_A w s.heap.size) _ hZ rfl hnm ⟨B.exec, B.bytes, hml, findClass_of_methodNamed B.named, fun w h => hts w (List.mem_cons_of_mem _ h), hK, fun q h => Or.inr h, B.notSynchronized, rfl, B.returns⟩ ?_ s.heap [] _ hP hD va_S.rf trivial hl
  intro pc L w2 d hR H locs ls hP hD hS hw hl
  exact W.vret B.exec B.bytes B.returns (fun t ht hW => ⟨⟨w2, rfl, hR, by rw [ht]; exact hP, hD⟩, hS.F ht⟩) hS.2.2 d B.notSynchronized
def kmI (y : MethodName) (cc : ByteArray) (maxL n : Nat) : Prop := Cond.code y cc maxL none ∈ lwG ∧ Cond.initialized y.cls ∈ lwG ∧ (y.cls ≠ "java/lang/invoke/MethodHandle" ∧ y.cls ≠ "java/lang/invoke/VarHandle" ∧ (parseMethodDescriptor y.desc).map (fun d => d.parameters.length) = some n) ∧ Cond.instanceMethod y ∈ lwG ∧ y.name = "<init>"
section EM
variable {Z : vZ} {X : vjX} {cc : ByteArray} {own : String} {ret : Option FieldType} {Rm : Room} {tys : List (ClassId × FieldType)} {a b pc : Nat} {L L' : List (Nat × Value)} {st : List Value} {w w' : va_W} {G : va_G} {A : Nat → Prop} {nL : Nat} {Q : State → Prop} {q idx : Nat}
theorem J_wid {S : Type} {Y : vjY S} {σ : S} {a' b' : Nat} (ha : a ≤ a') (hb : b ≤ b') (K : J X Y a' b' pc L st σ) : J X Y a b pc L st σ := fun H locs ls hP hD hS hw hl => W.widen ha hb (K H locs ls hP hD hS hw hl)
theorem E_obj (C : Cx X (YE G A nL Q) cc own ret Rm tys) (hlink : Cond.methodLink own idx objectInit ∈ lwG) (hinst : Cond.instanceMethod objectInit ∈ lwG) (hcode : Cond.code objectInit ⟨#[0xb1]⟩ 1 none ∈ lwG) (hcat : (st.map fun v => v.category).sum ≤ 8) (hfr : 1 ≤ Rm.frames) (hlo : 20 ≤ Rm.locals) (d : decode cc pc = .ok (.invokespecial idx, 3)) (K : J X (YE G A nL Q) a b (pc + 3) L st w) : J X (YE G A nL Q) a b pc L (.ref q :: st) w := fun H locs ls hP hD hS hw hl => by
  have hRm := C.2.2.2.2.2.2.2.2.1
  refine W.objInit C.1 C.2.1 C.2.2.2.1 (C.2.2.2.2.1 _ hlink) (C.2.2.2.2.1 _ hinst) (C.2.2.2.2.1 _ hcode) rfl (by rw [C.2.2.1]; exact hl.1) rfl d (by rw [hRm]; exact hfr) (by rw [hRm]; exact Nat.le_trans (Nat.add_le_add_right (lv_room hcat) 12) hlo) ?_
  refine W.eq (g2 := F0 X.2.2.2.2.2.1 (pc + 3) ls st) rfl ?_
  exact K H locs ls hP hD hS hw hl
theorem E_new (C : Cx X (YE G A nL Q) cc own ret Rm tys) (ci N : Nat) {Cn : String} {Tn : u_T} (fs : List Value) (hc : vwCl[ci]? = some (Cn, Tn, N)) (hin : ∀ w ∈ u_ws Cn Tn N, w ∈ lwG) (ty0 : Nat → FieldType) (hty0 : ∀ k, k < N → parseFieldDescriptor (Tn k).2.2.1 = some (ty0 k)) (hlink : Cond.classLink own idx Cn ∈ lwG) (hinst : Cond.instantiable Cn N ∈ lwG) (hini : Cond.initialized Cn ∈ lwG) (hfs : ∀ j, j < N → defaultValue (ty0 j) = vp_V fs j) (hr : a + 1 ≤ Rm.cells ∧ b + N ≤ Rm.slots) (d : decode cc pc = .ok (.new idx, 3)) (K : ∀ q : Nat, J X (YE G A nL Q) (a + 1) (b + N) (pc + 3) L (.ref q :: st) (w ++ [(q, .inr (ci, fs))])) : J X (YE G A nL Q) a b pc L st w := fun H locs ls hP hD hS hw hl => by
  have hRm := C.2.2.2.2.2.2.2.2.1
  exact va_new (ci := ci) (fs := fs) C.1 C.2.1 (Ts := lwG) C.2.2.2.2.1 hin ty0 hty0 C.2.2.2.1 (C.2.2.2.2.1 _ hlink) (C.2.2.2.2.1 _ hinst) (C.2.2.2.2.1 _ hini) C.2.2.2.2.2.1 hP hD hS C.2.2.2.2.2.2.1 hc hfs (by rw [hRm]; exact hr.1) (by rw [hRm]; exact hr.2) d (fun q H1 hP1 hD1 hS1 => K q H1 locs ls hP1 hD1 hS1 trivial hl)
theorem E_put (C : Cx X (YE G A nL Q) cc own ret Rm tys) (q0 ci k N : Nat) {Cn : String} {Tn : u_T} {fs : List Value} {v : Value} {ty : FieldType} (he : w[q0]? = some (q, .inr (ci, fs))) (hc : vwCl[ci]? = some (Cn, Tn, N)) (hin : ∀ w ∈ u_ws Cn Tn N, w ∈ lwG) (hk : k < N) (ty0 : Nat → FieldType) (hty0 : ∀ k, k < N → parseFieldDescriptor (Tn k).2.2.1 = some (ty0 k)) (hnm : ∀ a, a < N → ∀ b, b < N → a ≠ b → (Tn a).2.1 ≠ (Tn b).2.1) (hfin : (Tn k).2.2.2 = false) (hlen : k < fs.length) (hlink : Cond.fieldLink own idx (Tn k).1 (Tn k).2.1 (Tn k).2.2.1 ∈ lwG) (hty : parseFieldDescriptor (Tn k).2.2.1 = some ty) (hn : narrow ty v = v) (hf : fits ty v = true) (d : decode cc pc = .ok (.putfield idx, 3)) (hw' : w.set q0 (q, .inr (ci, fs.set k v)) = w') (K : J X (YE G A nL Q) a b (pc + 3) L st w') : J X (YE G A nL Q) a b pc L (v :: .ref q :: st) w := fun H locs ls hP hD hS hw hl => by
  subst hw'
  exact va_put (ci := ci) (q0 := q0) C.1 C.2.1 (Ts := lwG) C.2.2.2.2.1 hin ty0 hty0 hnm C.2.2.2.1 C.2.2.2.2.2.1 hP hD hS he hc k hk (C.2.2.2.2.1 _ hlink) (fun _ h9 => h9) hfin hty hn hf hlen d (fun H1 locs1 hP1 hD1 hS1 => K H1 locs1 ls hP1 hD1 hS1 trivial hl)
theorem E_putF (C : Cx X (YE G A nL Q) cc own ret Rm tys) (hin2 : X.2.2.2.2.2.2.2.2.1.name = "<init>") (q0 ci k N : Nat) {Cn : String} {Tn : u_T} {fs : List Value} {v : Value} {ty : FieldType} (he : w[q0]? = some (q, .inr (ci, fs))) (hc : vwCl[ci]? = some (Cn, Tn, N)) (hin : ∀ w ∈ u_ws Cn Tn N, w ∈ lwG) (hk : k < N) (ty0 : Nat → FieldType) (hty0 : ∀ k, k < N → parseFieldDescriptor (Tn k).2.2.1 = some (ty0 k)) (hnm : ∀ a, a < N → ∀ b, b < N → a ≠ b → (Tn a).2.1 ≠ (Tn b).2.1) (hfin : (Tn k).2.2.2 = true) (hdecl : (Tn k).1 = own) (hlen : k < fs.length) (hlink : Cond.fieldLink own idx (Tn k).1 (Tn k).2.1 (Tn k).2.2.1 ∈ lwG) (hty : parseFieldDescriptor (Tn k).2.2.1 = some ty) (hn : narrow ty v = v) (hf : fits ty v = true) (d : decode cc pc = .ok (.putfield idx, 3)) (hw' : w.set q0 (q, .inr (ci, fs.set k v)) = w') (K : J X (YE G A nL Q) a b (pc + 3) L st w') : J X (YE G A nL Q) a b pc L (v :: .ref q :: st) w := fun H locs ls hP hD hS hw hl => by
  subst hw'
  exact va_putF (ci := ci) (q0 := q0) C.1 C.2.1 (Ts := lwG) C.2.2.2.2.1 hin ty0 hty0 hnm C.2.2.2.1 C.2.2.2.2.2.1 hP hD hS he hc k hk (C.2.2.2.2.1 _ hlink) (fun _ h9 => h9) hfin hin2 hdecl hty hn hf hlen d (fun H1 locs1 hP1 hD1 hS1 => K H1 locs1 ls hP1 hD1 hS1 trivial hl)
theorem E_get (C : Cx X (YE G A nL Q) cc own ret Rm tys) (q0 ci k N : Nat) {Cn : String} {Tn : u_T} {fs : List Value} {v : Value} (he : w[q0]? = some (q, .inr (ci, fs))) (hc : vwCl[ci]? = some (Cn, Tn, N)) (hin : ∀ w ∈ u_ws Cn Tn N, w ∈ lwG) (hk : k < N) (hlink : Cond.fieldLink own idx (Tn k).1 (Tn k).2.1 (Tn k).2.2.1 ∈ lwG) (hv : fs[k]? = some v) (d : decode cc pc = .ok (.getfield idx, 3)) (K : J X (YE G A nL Q) a b (pc + 3) L (v :: st) w) : J X (YE G A nL Q) a b pc L (.ref q :: st) w := fun H locs ls hP hD hS hw hl =>
  va_get (ci := ci) (q0 := q0) C.1 C.2.1 (Ts := lwG) C.2.2.2.2.1 hin C.2.2.2.1 C.2.2.2.2.2.1 hP he hc k hk (C.2.2.2.2.1 _ hlink) (fun _ h9 => h9) hv d (K H locs ls hP hD hS hw hl)
theorem E_newa (C : Cx X (YE G A nL Q) cc own ret Rm tys) {z : Int} (atype : ArrayType) {ty : FieldType} (hty : newarray.typeOf atype = ty) (k : Nat) (hk : z = (k : Int)) (hb : k ≤ 10000) (t0 : Nat) {cA : ClassId} (ht : tys[t0]? = some (cA, ty)) (a0 : vp_A) (ha0 : ∀ c : ClassId, vp_cell c a0 = arrV c k (fun _ => defaultValue ty)) (harr : Cond.arrayClass (newarray.typeOf atype) ∈ lwG) (hcb : componentBytes ty ≤ 8) (hc : a + 1 ≤ Rm.cells ∧ b + k ≤ Rm.slots) (d : decode cc pc = .ok (.newarray atype, 2)) (K : ∀ q : Nat, J X (YE G A nL Q) (a + 1) (b + k) (pc + 2) L (.ref q :: st) (w ++ [(q, .inl (cA, a0))])) : J X (YE G A nL Q) a b pc L (vi z :: st) w := fun H locs ls hP hD hS hw hl => by
  have hz : rng z := by unfold rng; omega
  have hRm := C.2.2.2.2.2.2.2.2.1
  refine va_newa (atype := atype) C.1 C.2.1 (C.2.2.2.2.1 _ harr) hty C.2.2.2.2.2.1 hP hD hS C.2.2.2.2.2.2.1 (N' := k) (a0 := a0) ha0 ?_ ?_ ?_ (by rw [hRm]; exact hc.1) (by rw [hRm]; exact hc.2) d (fun q c2 H1 hK1 hP1 hD1 hS1 => ?_)
  · rw [← ofI_0, rng_lt hz rng_0]; omega
  · rw [← Int32.toNat_toInt, rng_toInt hz]; omega
  · exact Nat.le_trans (Nat.mul_le_mul hb hcb) (by decide)
  · have h1 := (C.2.2.2.2.2.1.2 t0 (cA, ty) ht).2
    have h2 := (hK1.2 tys.length (c2, ty) (by rw [List.getElem?_append_right (Nat.le_refl _)]; simp)).2
    have e := va_RA_un h2 h1
    subst e
    exact K q H1 locs ls hP1 hD1 hS1 trivial hl
theorem E_newq (zm : ZM Z) (hZ : Zx Z X (YE G A nL Q)) (C : Cx X (YE G A nL Q) cc own ret Rm tys) {z : Int} (Cn : String) (hao : Cn ∈ aoL) (k : Nat) (hk : z = (k : Int)) (hb : k ≤ 10000) (t0 : Nat) {cA : ClassId} (ht : tys[t0]? = some (cA, .object Cn)) (hlink : Cond.classLink own idx Cn ∈ lwG) (hc : a + 1 ≤ Rm.cells ∧ b + k ≤ Rm.slots) (d : decode cc pc = .ok (.anewarray idx, 3)) (K : ∀ q : Nat, J X (YE G A nL Q) (a + 1) (b + k) (pc + 3) L (.ref q :: st) (w ++ [(q, .inl (cA, k, .inr (.inr (.inr (.inr (fun _ => none))))))])) : J X (YE G A nL Q) a b pc L (vi z :: st) w := fun H locs ls hP hD hS hw hl => by
  have hz : rng z := by unfold rng; omega
  have hRm := C.2.2.2.2.2.2.2.2.1
  refine va_newq (C := Cn) C.1 C.2.1 C.2.2.2.1 (C.2.2.2.2.1 _ hlink) ((zm _ _ _ hZ).1 Cn hao) C.2.2.2.2.2.1 hP hD hS C.2.2.2.2.2.2.1 (N' := k) ?_ ?_ ?_ (by rw [hRm]; exact hc.1) (by rw [hRm]; exact hc.2) d (fun q c2 H1 hK1 hP1 hD1 hS1 => ?_)
  · rw [← ofI_0, rng_lt hz rng_0]; omega
  · rw [← Int32.toNat_toInt, rng_toInt hz]; omega
  · exact Nat.le_trans (Nat.mul_le_mul_right 4 hb) (by decide)
  · have h1 := (C.2.2.2.2.2.1.2 t0 (cA, .object Cn) ht).2
    have h2 := (hK1.2 tys.length (c2, .object Cn) (by rw [List.getElem?_append_right (Nat.le_refl _)]; simp)).2
    have e := va_RA_un h2 h1
    subst e
    exact K q H1 locs ls hP1 hD1 hS1 trivial hl
theorem E_astq (C : Cx X (YE G A nL Q) cc own ret Rm tys) {i : Int} (k : Nat) (hk : i = (k : Int)) (q0 t0 qk ci : Nat) {cA : ClassId} {r : vw_C} {n v : Nat} {vs : List Value} {f : Nat → Option Nat} (ha : w[q0]? = some (q, .inl (cA, n, .inr (.inr (.inr (.inr f)))))) (ht : tys[t0]? = some (cA, .object r.1)) (hv : w[qk]? = some (v, .inr (ci, vs))) (hc : vwCl[ci]? = some r) (hin : k < n) (hn : n ≤ 10000) (d : decode cc pc = .ok (.aastore, 1)) (hw' : w.set q0 (q, .inl (cA, n, .inr (.inr (.inr (.inr (va_up f k (some v))))))) = w') (K : J X (YE G A nL Q) a b (pc + 1) L st w') : J X (YE G A nL Q) a b pc L (.ref v :: vi i :: .ref q :: st) w := fun H locs ls hP hD hS hw hl => by
  subst hw'
  have hi : 0 ≤ i ∧ i < n := by omega
  refine va_astq (q0 := q0) (t0 := t0) (qk := qk) (ci := ci) (r := r) C.1 C.2.1 C.2.2.2.2.2.1 hP hD hS ha ht hv hc (ix_in (n := n) hi (by omega)) d (fun H1 locs1 hP1 hD1 hS1 => ?_)
  rw [ix_nat (n := n) hi (by omega), show i.toNat = k by omega] at hP1 hD1
  exact K H1 locs1 ls hP1 hD1 hS1 trivial hl
theorem E_asts {E : Nat → Nat → Nat} (zc : ZC Z E) (hZ : Zx Z X (YE G A nL Q)) (C : Cx X (YE G A nL Q) cc own ret Rm tys) {i : Int} (k : Nat) (hk : i = (k : Int)) (q0 t0 : Nat) {cA : ClassId} {n : Nat} {f : Nat → Option Nat} (ha : w[q0]? = some (q, .inl (cA, n, .inr (.inr (.inr (.inr f)))))) (ht : tys[t0]? = some (cA, .object "RingTransit$Command")) (hin : k < n) (hn : n ≤ 10000) (d : decode cc pc = .ok (.aastore, 1)) (hw' : w.set q0 (q, .inl (cA, n, .inr (.inr (.inr (.inr (va_up f k (some (E 1 6)))))))) = w') (K : J X (YE G A nL Q) a b (pc + 1) L st w') : J X (YE G A nL Q) a b pc L (ve E 1 6 :: vi i :: .ref q :: st) w := fun H locs ls hP hD hS hw hl => by
  subst hw'
  have hi : 0 ≤ i ∧ i < n := by omega
  have hzn : (6 : Int).toNat < nmC.length := (ordC_v (z := 6) ⟨by decide, by decide⟩).1
  refine vb_astq (q0 := q0) (t0 := t0) C.1 C.2.1 C.2.2.2.2.2.1 hP hD hS ha ht (va_recvE (zc _ _ _ hZ) hzn hS) vb_asgS (ix_in (n := n) hi (by omega)) d (fun H1 locs1 hP1 hD1 hS1 => ?_)
  rw [ix_nat (n := n) hi (by omega), show i.toNat = k by omega] at hP1 hD1
  exact K H1 locs1 ls hP1 hD1 hS1 trivial hl
theorem E_gets {E : Nat → Nat → Nat} (zc : ZC Z E) (hZ : Zx Z X (YE G A nL Q)) (C : Cx X (YE G A nL Q) cc own ret Rm tys) (hlink : Cond.fieldLink own idx "RingTransit$Command" (nmC.getD 6 "") "LRingTransit$Command;" ∈ lwG) (d : decode cc pc = .ok (.getstatic idx, 3)) (K : J X (YE G A nL Q) a b (pc + 3) L (ve E 1 6 :: st) w) : J X (YE G A nL Q) a b pc L st w := fun H locs ls hP hD hS hw hl =>
  va_gets C.1 C.2.1 ((zc _ _ _ hZ).1 6 (by decide)).1 hS C.2.2.2.1 (C.2.2.2.2.1 _ hlink) (fun _ h9 => h9) d (K H locs ls hP hD hS hw hl)
theorem E_cs {E : Nat → Nat → Nat} (zs : ZS Z E) (hZ : Zx Z X (YE G A nL Q)) (C : Cx X (YE G A nL Q) cc own ret Rm tys) (hlink : Cond.fieldLink own idx "java/lang/String" "COMPACT_STRINGS" "Z" ∈ lwG) (d : decode cc pc = .ok (.getstatic idx, 3)) (K : J X (YE G A nL Q) a b (pc + 3) L (vi 1 :: st) w) : J X (YE G A nL Q) a b pc L st w := fun H locs ls hP hD hS hw hl =>
  va_gets C.1 C.2.1 (zs _ _ _ hZ).2.1 hS C.2.2.2.1 (C.2.2.2.2.1 _ hlink) (fun _ h9 => h9) d (K H locs ls hP hD hS hw hl)
theorem E_call (zk : Zok Z) (hZ : Zx Z X (YE G A nL Q)) (C : Cx X (YE G A nL Q) cc own ret Rm tys) (As rest : List Value) {y : MethodName} {ccy : ByteArray} {maxL n : Nat} {rm : Room} {x : Nat × va_E} {R : va_W → Prop} (ct : MkV Z X.2.1 y ccy maxL rm G tys (.ref q :: As) [x] R) (hlink : Cond.methodLink own idx y ∈ lwG) (hm : kmI y ccy maxL n) (hn : As.length = n) (hst : st = As.reverse ++ .ref q :: rest) (hcat : (rest.map fun v => v.category).sum ≤ 8) (hR : rmFit rm Rm maxL a b) (d : decode cc pc = .ok (.invokespecial idx, 3)) (K : ∀ w1 : va_W, R w1 → J X (YE G A nL Q) (a + rm.cells) (b + rm.slots) (pc + 3) L rest (w ++ w1)) : J X (YE G A nL Q) a b pc L st (w ++ [x]) := by
  intro H locs ls hP hD hS hw hl
  obtain ⟨hx, hb, hml, hown, hts, hK, hA, -, hRm, -⟩ := C
  obtain ⟨m1, m2, m3, m4, m5⟩ := hm
  obtain ⟨⟨r1, r2⟩, r3, r4⟩ := hR
  have hpm : ∀ u : va_W, (w ++ u).Perm (u ++ w) := fun u => List.perm_append_comm
  have hP0 : va_P G vwCl ([x] ++ w) H := va_P_perm (hpm [x]) hP
  have hD0 : va_D A ([x] ++ w) := va_D_perm (hpm [x]) hD
  have hPc := va_P_left hP0
  have hDc := va_D_left hD0
  have hF := callFree hA hDc hS
  subst hst
  refine va_callv (va_runI (As := As) (rest := rest) ⟨hx, hb, hml, hown, hts⟩ (ct H.size) (cwI n hts (lwG_good m1) rfl rfl rfl (hts _ m2) (hts _ hlink) (hts _ m4) m5 m3 (by rw [hRm]; exact ⟨r1, r2⟩)) ⟨preZ_blind zk, fun U hU hW => ⟨rfl, ⟨by rw [hU], by rw [hU]; exact hPc, va_K.moved hW.alike hK, hDc.weaken (fun _ _ _ _ => trivial)⟩, by rw [hU]; exact zk.2.2 _ _ _ _ (zk.1 _ _ _ _ hW (zk.2.1 _ _ _ _ hZ hS.2.1)) hF⟩⟩ rfl hn hl.1 rfl (lv_room hcat) d (by rw [hRm]; exact ⟨r3, r4⟩)) hS (fun q _ h => hF q h) hF (fun u t H1 locs1 ht hvm hwf hB hz hk9 hS1 => ?_)
  obtain ⟨hP1, hD1⟩ := hB
  rw [ht] at hP1
  obtain ⟨hP2, hD2⟩ := va_frame hP0 hD0 hP1 hD1 hk9 hF
  exact K u hwf H1 locs1 ls (va_P_perm (hpm u).symm hP2) (va_D_perm (hpm u).symm hD2) hS1 trivial hl
theorem E_callN (zk : Zok Z) (zm : ZM Z) (hZ : Zx Z X (YE G A nL Q)) (C : Cx X (YE G A nL Q) cc own ret Rm tys) (rest : List Value) {y : MethodName} {ccy : ByteArray} {maxL : Nat} {rm : Room} {x : Nat × va_E} {R : va_W → Prop} (ct : MkV Z X.2.1 y ccy maxL rm G tys [.ref q] [x] R) (host : String) (hlink : Cond.methodLinkNest own idx y host ∈ nkL) (hm : kmI y ccy maxL 0) (hcat : (rest.map fun v => v.category).sum ≤ 8) (hR : rmFit rm Rm maxL a b) (d : decode cc pc = .ok (.invokespecial idx, 3)) (K : ∀ w1 : va_W, R w1 → J X (YE G A nL Q) (a + rm.cells) (b + rm.slots) (pc + 3) L rest (w ++ w1)) : J X (YE G A nL Q) a b pc L (.ref q :: rest) (w ++ [x]) := by
  intro H locs ls hP hD hS hw hl
  obtain ⟨hx, hb, hml, hown, hts, hK, hA, -, hRm, -⟩ := C
  obtain ⟨m1, m2, m3, m4, m5⟩ := hm
  obtain ⟨⟨r1, r2⟩, r3, r4⟩ := hR
  have hpm : ∀ u : va_W, (w ++ u).Perm (u ++ w) := fun u => List.perm_append_comm
  have hP0 : va_P G vwCl ([x] ++ w) H := va_P_perm (hpm [x]) hP
  have hD0 : va_D A ([x] ++ w) := va_D_perm (hpm [x]) hD
  have hPc := va_P_left hP0
  have hDc := va_D_left hD0
  have hF := callFree hA hDc hS
  refine va_callv (va_runIN (As := []) (rest := rest) ⟨hx, hb, hml, hown, hts⟩ (ct H.size) ⟨va_cnB 0 hts (lwG_good m1) rfl rfl rfl ((zm _ _ _ hZ).2 _ hlink) (hts _ m2) m3 (by rw [hRm]; exact ⟨r1, r2⟩), m5, hts _ m4⟩ ⟨preZ_blind zk, fun U hU hW => ⟨rfl, ⟨by rw [hU], by rw [hU]; exact hPc, va_K.moved hW.alike hK, hDc.weaken (fun _ _ _ _ => trivial)⟩, by rw [hU]; exact zk.2.2 _ _ _ _ (zk.1 _ _ _ _ hW (zk.2.1 _ _ _ _ hZ hS.2.1)) hF⟩⟩ rfl rfl hl.1 rfl (lv_room hcat) d (by rw [hRm]; exact ⟨r3, r4⟩)) hS (fun q _ h => hF q h) hF (fun u t H1 locs1 ht hvm hwf hB hz hk9 hS1 => ?_)
  obtain ⟨hP1, hD1⟩ := hB
  rw [ht] at hP1
  obtain ⟨hP2, hD2⟩ := va_frame hP0 hD0 hP1 hD1 hk9 hF
  exact K u hwf H1 locs1 ls (va_P_perm (hpm u).symm hP2) (va_D_perm (hpm u).symm hD2) hS1 trivial hl
end EM
