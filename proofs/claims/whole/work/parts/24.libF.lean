/-! doubles and floats: quotients of small counts, never a NaN -/
def dqv (s c : Int) : UInt64 := FP.ddiv (FP.i2d (Int32.ofInt s)) (FP.i2d (Int32.ofInt c))
def fqv (s c : Int) : UInt32 := FP.fdiv (FP.i2f (Int32.ofInt s)) (FP.i2f (Int32.ofInt c))
theorem nn64 : ∀ s, s < 320 → ∀ c, c < 17 → 0 < c → vf_n64 (FP.ddiv (FP.i2d (Int32.ofInt (s : Nat))) (FP.i2d (Int32.ofInt (c : Nat)))) := by
  unfold vf_n64
  decide +kernel
theorem nn32 : ∀ s, s < 11 → ∀ c, c < 11 → 0 < c → vf_n32 (FP.fdiv (FP.i2f (Int32.ofInt (s : Nat))) (FP.i2f (Int32.ofInt (c : Nat)))) := by
  unfold vf_n32
  decide +kernel
theorem nnf2d : ∀ s, s < 11 → ∀ c, c < 11 → 0 < c → vf_n64 (FP.f2d (FP.fdiv (FP.i2f (Int32.ofInt (s : Nat))) (FP.i2f (Int32.ofInt (c : Nat))))) := by
  unfold vf_n64
  decide +kernel
theorem dqv_nn {s c : Int} (h : 0 ≤ s ∧ s < 320 ∧ 0 < c ∧ c < 17) : vf_n64 (dqv s c) := by
  obtain ⟨n, rfl⟩ := Int.eq_ofNat_of_zero_le h.1
  obtain ⟨k, rfl⟩ := Int.eq_ofNat_of_zero_le (show 0 ≤ c by omega)
  exact nn64 n (by omega) k (by omega) (by omega)
theorem fqv_nn {s c : Int} (h : 0 ≤ s ∧ s < 11 ∧ 0 < c ∧ c < 11) : vf_n32 (fqv s c) ∧ vf_n64 (FP.f2d (fqv s c)) := by
  obtain ⟨n, rfl⟩ := Int.eq_ofNat_of_zero_le h.1
  obtain ⟨k, rfl⟩ := Int.eq_ofNat_of_zero_le (show 0 ≤ c by omega)
  exact ⟨nn32 n (by omega) k (by omega) (by omega), nnf2d n (by omega) k (by omega) (by omega)⟩
section FR
variable {S O : Type} {X : vjX} {Y : vjY S} {kp : O → Prop} {cc : ByteArray} {own : String} {ret : Option FieldType} {Rm : Room} {tys : List (ClassId × FieldType)} {a b pc : Nat} {L L' : List (Nat × Value)} {st : List Value} {σ : S} {r : Option O}
theorem T_i2d (C : Cx X Y cc own ret Rm tys) {x : Int} (d : decode cc pc = .ok (.i2d, 1)) (K : T X Y kp a b (pc + 1) L (.double (FP.i2d (Int32.ofInt x)) :: st) σ r) : T X Y kp a b pc L (vi x :: st) σ r := fun o h hk H locs ls hP hD hS hw hl => lv_i2d C.1 C.2.1 d (K o h hk H locs ls hP hD hS hw hl)
theorem T_i2f (C : Cx X Y cc own ret Rm tys) {x : Int} (d : decode cc pc = .ok (.i2f, 1)) (K : T X Y kp a b (pc + 1) L (.float (FP.i2f (Int32.ofInt x)) :: st) σ r) : T X Y kp a b pc L (vi x :: st) σ r := fun o h hk H locs ls hP hD hS hw hl => lv_i2f C.1 C.2.1 d (K o h hk H locs ls hP hD hS hw hl)
theorem T_ddiv (C : Cx X Y cc own ret Rm tys) {s c : Int} (hn : 0 ≤ s ∧ s < 320 ∧ 0 < c ∧ c < 17) (d : decode cc pc = .ok (.ddiv, 1)) (K : T X Y kp a b (pc + 1) L (.double (dqv s c) :: st) σ r) : T X Y kp a b pc L (.double (FP.i2d (Int32.ofInt c)) :: .double (FP.i2d (Int32.ofInt s)) :: st) σ r := fun o h hk H locs ls hP hD hS hw hl => lv_ddiv C.1 C.2.1 d (dqv_nn hn) (K o h hk H locs ls hP hD hS hw hl)
theorem T_fdiv (C : Cx X Y cc own ret Rm tys) {s c : Int} (hn : 0 ≤ s ∧ s < 11 ∧ 0 < c ∧ c < 11) (d : decode cc pc = .ok (.fdiv, 1)) (K : T X Y kp a b (pc + 1) L (.float (fqv s c) :: st) σ r) : T X Y kp a b pc L (.float (FP.i2f (Int32.ofInt c)) :: .float (FP.i2f (Int32.ofInt s)) :: st) σ r := fun o h hk H locs ls hP hD hS hw hl => lv_fdiv C.1 C.2.1 d (fqv_nn hn).1 (K o h hk H locs ls hP hD hS hw hl)
theorem T_dconst0 (C : Cx X Y cc own ret Rm tys) (d : decode cc pc = .ok (.dconst 0, 1)) (K : T X Y kp a b (pc + 1) L (.double FP.dconst0 :: st) σ r) : T X Y kp a b pc L st σ r := fun o h hk H locs ls hP hD hS hw hl => lv_dconst0 C.1 C.2.1 d (K o h hk H locs ls hP hD hS hw hl)
theorem T_fconst0 (C : Cx X Y cc own ret Rm tys) (d : decode cc pc = .ok (.fconst 0, 1)) (K : T X Y kp a b (pc + 1) L (.float FP.fconst0 :: st) σ r) : T X Y kp a b pc L st σ r := fun o h hk H locs ls hP hD hS hw hl => lv_fconst0 C.1 C.2.1 d (K o h hk H locs ls hP hD hS hw hl)
end FR
def CxD {S : Type} (Z : vZ) (l : Launch) (y : MethodName) (cc : ByteArray) (maxL : Nat) (ret : Option FieldType) (rm : Room) (wl : S → va_W) (wf : S → Prop) (G : va_G) (tys : List (ClassId × FieldType)) (av : List Value) (σ : S) (o : S × Nat × UInt64) : Prop :=
  ∀ sz : Nat, vx_Met l y (Cond.code y cc maxL ret :: lwG) rm (va_Pc av (preZ Z wl G tys sz σ)) (va_Qd (fun (r : UInt64) (_ : Unit) => o.2.1 = 0 ∧ r = o.2.2 ∧ wf o.1) (fun _ t => va_P G vwCl (wl o.1) t.heap ∧ va_D (va_A (wl σ) sz) (wl o.1)) (va_A (wl σ) sz)) (vx_X (fun _ : Unit => o.2.1 ≠ 0 ∧ wf o.1) (fun E _ t => E = xn o.2.1 ∧ va_P G vwCl (wl o.1) t.heap ∧ va_D (va_A (wl σ) sz) (wl o.1)) (va_A (wl σ) sz)) rm.cells rm.slots (va_A (wl σ) sz)
def EndXD {S : Type} (X : vjX) (Y : vjY S) (cc : ByteArray) (Rm : Room) (o : S × Nat × UInt64) : Prop := o.2.1 = 0 → ∀ (pc : Nat) (L : List (Nat × Value)), decode cc pc = .ok (.dreturn, 1) → J X Y Rm.cells Rm.slots pc L [.double o.2.2] o.1
section CXD
variable {S O : Type} {Z : vZ} {E : Nat → Nat → Nat} {l : Launch} {y : MethodName} {cc : ByteArray} {maxL : Nat} {rm : Room} {wl : S → va_W} {wf : S → Prop} {G : va_G} {tys : List (ClassId × FieldType)} {av : List Value} {σ : S}
theorem cxD_of (zk : Zok Z) (zx : ZX Z) (hst : l.stackTraces = false) (hy : plainName y.cls = true) (hf : (lg_sl av).length ≤ maxL) (hw : wf σ) (o : S × Nat × UInt64) {r : Option (S × Nat × UInt64)} (hr : r = some o)
    (body : ∀ (X : vjX) (A : Nat → Prop) (Q : State → Prop), Zx Z X (wl, wf, G, A, maxL, Q) → X.2.1 = l → Cx X (wl, wf, G, A, maxL, Q) cc y.cls (some .double) rm tys → T X (wl, wf, G, A, maxL, Q) (fun w => EndXD X (wl, wf, G, A, maxL, Q) cc rm w ∧ EndX X (wl, wf, G, A, maxL, Q) cc y.cls rm (w.1, w.2.1, 0)) 0 0 0 (lv_args 0 av) [] σ r) :
    CxD Z l y cc maxL (some .double) rm wl wf G tys av σ o := by
  intro sz
  refine vx_ofW (cc := cc) (maxL := maxL) (ret := some .double) hy rfl ?_
  intro p e s m args below meth c s₁ B hml ht hv
  obtain ⟨rfl, ⟨hsz, hP, hK, hD0⟩, hZ⟩ := hv
  have hts := atoms_spec (ws := Cond.code y cc maxL (some .double) :: lwG) B.pre
  subst hsz
  have hD := hD0.self (sz := s.heap.size)
  have hl := lv_entry av (n := maxL) hf
  rw [lg_entry_eq]
  have C : ∀ Q : State → Prop, Cx (p, l, e, (headSpec (Cond.code y cc maxL (some .double) :: lwG) rm).room, s, m, av.toArray, below, meth, c) (wl, wf, G, va_A (wl σ) s.heap.size, maxL, Q) cc y.cls (some .double) rm tys := fun Q => ⟨B.exec, B.bytes, hml, findClass_of_methodNamed B.named, fun w h => hts w (List.mem_cons_of_mem _ h), hK, fun q h => Or.inr h, B.notSynchronized, rfl, B.returns⟩
  refine body (p, l, e, (headSpec (Cond.code y cc maxL (some .double) :: lwG) rm).room, s, m, av.toArray, below, meth, c) (va_A (wl σ) s.heap.size) _ hZ rfl (C _) o hr ⟨?_, endX_of (y := y) (o := (o.1, o.2.1, 0)) hst zx hZ (C _) ht⟩ s.heap [] _ hP hD va_S.rf hw hl
  intro hx0 pc L d H locs ls hP hD hS hw hl
  exact vx_ret (W.dret (v := o.2.2) B.exec B.bytes B.returns (fun t ht hW => ⟨⟨o.2.2, (), rfl, ⟨hx0, rfl, hw⟩, by rw [ht]; exact hP, hD⟩, hS.F ht⟩) hS.2.2 d B.notSynchronized)
end CXD
def CtD {S : Type} (l : Launch) (y : MethodName) (cc : ByteArray) (maxL : Nat) (ret : Option FieldType) (rm : Room) (wl : S → va_W) (wf : S → Prop) (G : va_G) (tys : List (ClassId × FieldType)) (av : List Value) (σ σ' : S) (v : UInt64) : Prop :=
  ∀ sz : Nat, Met l y (Cond.code y cc maxL ret :: lwG) rm (va_Pc av (preJ wl G tys sz σ)) (va_Qd (fun (r : UInt64) (_ : Unit) => r = v ∧ wf σ') (fun _ t => va_P G vwCl (wl σ') t.heap ∧ va_D (va_A (wl σ) sz) (wl σ')) (va_A (wl σ) sz)) rm.cells rm.slots (va_A (wl σ) sz)
def EndD {S : Type} (X : vjX) (Y : vjY S) (cc : ByteArray) (Rm : Room) (o : S × UInt64) : Prop := ∀ (pc : Nat) (L : List (Nat × Value)), decode cc pc = .ok (.dreturn, 1) → J X Y Rm.cells Rm.slots pc L [.double o.2] o.1
section CTD
variable {S O : Type} {l : Launch} {y : MethodName} {cc : ByteArray} {maxL : Nat} {rm : Room} {wl : S → va_W} {wf : S → Prop} {G : va_G} {tys : List (ClassId × FieldType)} {av : List Value} {σ : S}
theorem ctD_of (hy : plainName y.cls = true) (hf : (lg_sl av).length ≤ maxL) (hw : wf σ) (o : S × UInt64) {r : Option O} (w : O) (hr : r = some w) (kp : vjX → vjY S → O → Prop) (hkp : ∀ X Y, EndD X Y cc rm o → kp X Y w)
    (body : ∀ (X : vjX) (A : Nat → Prop) (Q : State → Prop), X.2.1 = l → Cx X (wl, wf, G, A, maxL, Q) cc y.cls (some .double) rm tys → T X (wl, wf, G, A, maxL, Q) (kp X (wl, wf, G, A, maxL, Q)) 0 0 0 (lv_args 0 av) [] σ r) :
    CtD l y cc maxL (some .double) rm wl wf G tys av σ o.1 o.2 := by
  intro sz
  refine Met.ofW (cc := cc) (maxL := maxL) (ret := some .double) hy rfl ?_
  intro p e s m args below meth c s₁ B hml hv
  obtain ⟨rfl, hsz, hP, hK, hD0⟩ := hv
  have hts := atoms_spec (ws := Cond.code y cc maxL (some .double) :: lwG) B.pre
  subst hsz
  have hD := hD0.self (sz := s.heap.size)
  have hl := lv_entry av (n := maxL) hf
  rw [lg_entry_eq]
  refine body (p, l, e, (headSpec (Cond.code y cc maxL (some .double) :: lwG) rm).room, s, m, av.toArray, below, meth, c) (va_A (wl σ) s.heap.size) _ rfl ⟨B.exec, B.bytes, hml, findClass_of_methodNamed B.named, fun w h => hts w (List.mem_cons_of_mem _ h), hK, fun q h => Or.inr h, B.notSynchronized, rfl, B.returns⟩ w hr (hkp _ _ ?_) s.heap [] _ hP hD va_S.rf hw hl
  intro pc L d H locs ls hP hD hS hw hl
  exact W.dret (v := o.2) B.exec B.bytes B.returns (fun t ht hW => ⟨⟨o.2, (), rfl, ⟨rfl, hw⟩, by rw [ht]; exact hP, hD⟩, hS.F ht⟩) hS.2.2 d B.notSynchronized
end CTD
section DED
variable {S O : Type} {X : vjX} {Y : vjY S} {kp : O → Prop} {cc : ByteArray} {Rm : Room} {a b pc : Nat} {L : List (Nat × Value)} {σ : S}
theorem T_xdret {v : UInt64} (w : O) (o : S × Nat × UInt64) (ho : o = (σ, 0, v)) (hk : kp w → EndXD X Y cc Rm o) (hc : a ≤ Rm.cells ∧ b ≤ Rm.slots) (d : decode cc pc = .ok (.dreturn, 1)) : T X Y kp a b pc L [.double v] σ (some w) := fun w2 h hko => by
  cases h
  subst ho
  exact fun H locs ls hP hD hS hw hl => W.widen hc.1 hc.2 (hk hko rfl pc L d H locs ls hP hD hS hw hl)
theorem T_dret {v : UInt64} (w : O) (hk : kp w → EndD X Y cc Rm (σ, v)) (hc : a ≤ Rm.cells ∧ b ≤ Rm.slots) (d : decode cc pc = .ok (.dreturn, 1)) : T X Y kp a b pc L [.double v] σ (some w) := fun o h hko => by
  cases h
  exact fun H locs ls hP hD hS hw hl => W.widen hc.1 hc.2 (hk hko pc L d H locs ls hP hD hS hw hl)
end DED
def CxF {S : Type} (Z : vZ) (l : Launch) (y : MethodName) (cc : ByteArray) (maxL : Nat) (ret : Option FieldType) (rm : Room) (wl : S → va_W) (wf : S → Prop) (G : va_G) (tys : List (ClassId × FieldType)) (av : List Value) (σ : S) (o : S × Nat × UInt32) : Prop :=
  ∀ sz : Nat, vx_Met l y (Cond.code y cc maxL ret :: lwG) rm (va_Pc av (preZ Z wl G tys sz σ)) (va_Qf (fun (r : UInt32) (_ : Unit) => o.2.1 = 0 ∧ r = o.2.2 ∧ wf o.1) (fun _ t => va_P G vwCl (wl o.1) t.heap ∧ va_D (va_A (wl σ) sz) (wl o.1)) (va_A (wl σ) sz)) (vx_X (fun _ : Unit => o.2.1 ≠ 0 ∧ wf o.1) (fun E _ t => E = xn o.2.1 ∧ va_P G vwCl (wl o.1) t.heap ∧ va_D (va_A (wl σ) sz) (wl o.1)) (va_A (wl σ) sz)) rm.cells rm.slots (va_A (wl σ) sz)
def EndXF {S : Type} (X : vjX) (Y : vjY S) (cc : ByteArray) (Rm : Room) (o : S × Nat × UInt32) : Prop := o.2.1 = 0 → ∀ (pc : Nat) (L : List (Nat × Value)), decode cc pc = .ok (.freturn, 1) → J X Y Rm.cells Rm.slots pc L [.float o.2.2] o.1
section CXF
variable {S O : Type} {Z : vZ} {E : Nat → Nat → Nat} {l : Launch} {y : MethodName} {cc : ByteArray} {maxL : Nat} {rm : Room} {wl : S → va_W} {wf : S → Prop} {G : va_G} {tys : List (ClassId × FieldType)} {av : List Value} {σ : S}
theorem cxF_of (zk : Zok Z) (zx : ZX Z) (hst : l.stackTraces = false) (hy : plainName y.cls = true) (hf : (lg_sl av).length ≤ maxL) (hw : wf σ) (o : S × Nat × UInt32) {r : Option (S × Nat × UInt32)} (hr : r = some o)
    (body : ∀ (X : vjX) (A : Nat → Prop) (Q : State → Prop), Zx Z X (wl, wf, G, A, maxL, Q) → X.2.1 = l → Cx X (wl, wf, G, A, maxL, Q) cc y.cls (some .float) rm tys → T X (wl, wf, G, A, maxL, Q) (fun w => EndXF X (wl, wf, G, A, maxL, Q) cc rm w ∧ EndX X (wl, wf, G, A, maxL, Q) cc y.cls rm (w.1, w.2.1, 0)) 0 0 0 (lv_args 0 av) [] σ r) :
    CxF Z l y cc maxL (some .float) rm wl wf G tys av σ o := by
  intro sz
  refine vx_ofW (cc := cc) (maxL := maxL) (ret := some .float) hy rfl ?_
  intro p e s m args below meth c s₁ B hml ht hv
  obtain ⟨rfl, ⟨hsz, hP, hK, hD0⟩, hZ⟩ := hv
  have hts := atoms_spec (ws := Cond.code y cc maxL (some .float) :: lwG) B.pre
  subst hsz
  have hD := hD0.self (sz := s.heap.size)
  have hl := lv_entry av (n := maxL) hf
  rw [lg_entry_eq]
  have C : ∀ Q : State → Prop, Cx (p, l, e, (headSpec (Cond.code y cc maxL (some .float) :: lwG) rm).room, s, m, av.toArray, below, meth, c) (wl, wf, G, va_A (wl σ) s.heap.size, maxL, Q) cc y.cls (some .float) rm tys := fun Q => ⟨B.exec, B.bytes, hml, findClass_of_methodNamed B.named, fun w h => hts w (List.mem_cons_of_mem _ h), hK, fun q h => Or.inr h, B.notSynchronized, rfl, B.returns⟩
  refine body (p, l, e, (headSpec (Cond.code y cc maxL (some .float) :: lwG) rm).room, s, m, av.toArray, below, meth, c) (va_A (wl σ) s.heap.size) _ hZ rfl (C _) o hr ⟨?_, endX_of (y := y) (o := (o.1, o.2.1, 0)) hst zx hZ (C _) ht⟩ s.heap [] _ hP hD va_S.rf hw hl
  intro hx0 pc L d H locs ls hP hD hS hw hl
  exact vx_ret (W.fret (v := o.2.2) B.exec B.bytes B.returns (fun t ht hW => ⟨⟨o.2.2, (), rfl, ⟨hx0, rfl, hw⟩, by rw [ht]; exact hP, hD⟩, hS.F ht⟩) hS.2.2 d B.notSynchronized)
end CXF
def CtF {S : Type} (l : Launch) (y : MethodName) (cc : ByteArray) (maxL : Nat) (ret : Option FieldType) (rm : Room) (wl : S → va_W) (wf : S → Prop) (G : va_G) (tys : List (ClassId × FieldType)) (av : List Value) (σ σ' : S) (v : UInt32) : Prop :=
  ∀ sz : Nat, Met l y (Cond.code y cc maxL ret :: lwG) rm (va_Pc av (preJ wl G tys sz σ)) (va_Qf (fun (r : UInt32) (_ : Unit) => r = v ∧ wf σ') (fun _ t => va_P G vwCl (wl σ') t.heap ∧ va_D (va_A (wl σ) sz) (wl σ')) (va_A (wl σ) sz)) rm.cells rm.slots (va_A (wl σ) sz)
def EndF {S : Type} (X : vjX) (Y : vjY S) (cc : ByteArray) (Rm : Room) (o : S × UInt32) : Prop := ∀ (pc : Nat) (L : List (Nat × Value)), decode cc pc = .ok (.freturn, 1) → J X Y Rm.cells Rm.slots pc L [.float o.2] o.1
section CTF
variable {S O : Type} {l : Launch} {y : MethodName} {cc : ByteArray} {maxL : Nat} {rm : Room} {wl : S → va_W} {wf : S → Prop} {G : va_G} {tys : List (ClassId × FieldType)} {av : List Value} {σ : S}
theorem ctF_of (hy : plainName y.cls = true) (hf : (lg_sl av).length ≤ maxL) (hw : wf σ) (o : S × UInt32) {r : Option O} (w : O) (hr : r = some w) (kp : vjX → vjY S → O → Prop) (hkp : ∀ X Y, EndF X Y cc rm o → kp X Y w)
    (body : ∀ (X : vjX) (A : Nat → Prop) (Q : State → Prop), X.2.1 = l → Cx X (wl, wf, G, A, maxL, Q) cc y.cls (some .float) rm tys → T X (wl, wf, G, A, maxL, Q) (kp X (wl, wf, G, A, maxL, Q)) 0 0 0 (lv_args 0 av) [] σ r) :
    CtF l y cc maxL (some .float) rm wl wf G tys av σ o.1 o.2 := by
  intro sz
  refine Met.ofW (cc := cc) (maxL := maxL) (ret := some .float) hy rfl ?_
  intro p e s m args below meth c s₁ B hml hv
  obtain ⟨rfl, hsz, hP, hK, hD0⟩ := hv
  have hts := atoms_spec (ws := Cond.code y cc maxL (some .float) :: lwG) B.pre
  subst hsz
  have hD := hD0.self (sz := s.heap.size)
  have hl := lv_entry av (n := maxL) hf
  rw [lg_entry_eq]
  refine body (p, l, e, (headSpec (Cond.code y cc maxL (some .float) :: lwG) rm).room, s, m, av.toArray, below, meth, c) (va_A (wl σ) s.heap.size) _ rfl ⟨B.exec, B.bytes, hml, findClass_of_methodNamed B.named, fun w h => hts w (List.mem_cons_of_mem _ h), hK, fun q h => Or.inr h, B.notSynchronized, rfl, B.returns⟩ w hr (hkp _ _ ?_) s.heap [] _ hP hD va_S.rf hw hl
  intro pc L d H locs ls hP hD hS hw hl
  exact W.fret (v := o.2) B.exec B.bytes B.returns (fun t ht hW => ⟨⟨o.2, (), rfl, ⟨rfl, hw⟩, by rw [ht]; exact hP, hD⟩, hS.F ht⟩) hS.2.2 d B.notSynchronized
end CTF
section DEF
variable {S O : Type} {X : vjX} {Y : vjY S} {kp : O → Prop} {cc : ByteArray} {Rm : Room} {a b pc : Nat} {L : List (Nat × Value)} {σ : S}
theorem T_xfret {v : UInt32} (w : O) (o : S × Nat × UInt32) (ho : o = (σ, 0, v)) (hk : kp w → EndXF X Y cc Rm o) (hc : a ≤ Rm.cells ∧ b ≤ Rm.slots) (d : decode cc pc = .ok (.freturn, 1)) : T X Y kp a b pc L [.float v] σ (some w) := fun w2 h hko => by
  cases h
  subst ho
  exact fun H locs ls hP hD hS hw hl => W.widen hc.1 hc.2 (hk hko rfl pc L d H locs ls hP hD hS hw hl)
theorem T_fret {v : UInt32} (w : O) (hk : kp w → EndF X Y cc Rm (σ, v)) (hc : a ≤ Rm.cells ∧ b ≤ Rm.slots) (d : decode cc pc = .ok (.freturn, 1)) : T X Y kp a b pc L [.float v] σ (some w) := fun o h hko => by
  cases h
  exact fun H locs ls hP hD hS hw hl => W.widen hc.1 hc.2 (hk hko pc L d H locs ls hP hD hS hw hl)
end DEF
