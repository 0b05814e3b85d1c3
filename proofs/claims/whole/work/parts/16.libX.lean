/-! exceptions: a method that ends with (σ, x, v): x = 0 it gives v back, else it throws the x-th class -/
def xn (x : Nat) : String := if x = 1 then "java/lang/IndexOutOfBoundsException" else if x = 2 then "java/lang/IllegalArgumentException" else if x = 3 then "java/lang/IllegalStateException" else if x = 4 then "java/util/NoSuchElementException" else if x = 5 then "java/lang/UnsupportedOperationException" else "java/lang/ArithmeticException"
def ZX (Z : vZ) : Prop := ∀ (A : Nat → Prop) (U : State) (H : Heap), Z A U H → vx_Zq Bundle.tN "UNASSIGNED_STACK" Bundle.steD A U H ∧ vx_Zq Bundle.tN "SUPPRESSED_SENTINEL" Bundle.listD A U H
def ZR (Z : vZ) (own : String) (l : List (Nat × String)) (sa : Nat → Nat) : Prop := ∀ (A : Nat → Prop) (U : State) (H : Heap), Z A U H → ∀ q ∈ l, vk_R own q.1 q.2 (sa q.1) U
abbrev So (S : Type) : Type := S × Nat × Int
abbrev xw {S : Type} (o : So S) : So S := (o.1, o.2.1, 0)
/-- thrown, not caught here -/
def XOK {S : Type} (X : vjX) (Y : vjY S) (Rm : Room) (x : Nat) (σ : S) : Prop :=
  ∀ (H : Heap) (locs : List Loc) (ls : Array Slot) (pc : Nat) (st : List Value) (q : Addr) (ce : Cell), va_P Y.2.2.1 vwCl (Y.1 σ) H → va_D Y.2.2.2.1 (Y.1 σ) → va_S Y.2.2.2.1 X.2.2.2.2.1.heap H locs → Y.2.1 σ → H[q]? = some ce → ce.vm = .none → X.2.2.2.2.1.vm.findClass (xn x) = some ce.cls →
    vx_W X.1 X.2.1 X.2.2.1 X.2.2.2.1 X.2.2.2.2.1 X.2.2.2.2.2.1 X.2.2.2.2.2.2.1 X.2.2.2.2.2.2.2.1 X.2.2.2.2.2.2.2.2.1 X.2.2.2.2.2.2.2.2.2 H locs Rm.cells Rm.slots Y.2.2.2.2.2 (F0 X.2.2.2.2.2.1 pc ls st) q
/-- a new exception of the x-th class, with a constant's text, is thrown here -/
def XTH {S : Type} (X : vjX) (Y : vjY S) (cc : ByteArray) (own : String) (Rm : Room) (x : Nat) (σ : S) : Prop :=
  ∀ (pc ik is ic sa : Nat) (text : String) (names : List String) (L : List (Nat × Value)) (a b : Nat), Bundle.fit (xn x) = true → (∀ n ∈ names, Bundle.fit n = true) → Cond.classLink own ik (xn x) ∈ lwG → Cond.initialized (xn x) ∈ lwG → vk_R own is text sa X.2.2.2.2.1 → (∀ w ∈ vx_atS own ic (xn x) names, w ∈ lwG ∨ (w.onTables = true ∧ va_Nw w X.2.2.2.2.1)) → names.length + 3 < Rm.frames → 13 * (names.length + 1) + 43 ≤ Rm.locals → a + 1 ≤ Rm.cells → b + 6 ≤ Rm.slots →
    decode cc pc = .ok (.new ik, 3) → decode cc (pc + 3) = .ok (.dup, 1) → ((decode cc (pc + 4) = .ok (.ldc is, 2) ∧ decode cc (pc + 6) = .ok (.invokespecial ic, 3) ∧ decode cc (pc + 9) = .ok (.athrow, 1)) ∨ (decode cc (pc + 4) = .ok (.ldc_w is, 3) ∧ decode cc (pc + 7) = .ok (.invokespecial ic, 3) ∧ decode cc (pc + 10) = .ok (.athrow, 1))) → J X Y a b pc L [] σ
/-- the same for NoSuchElementException -/
def XTN {S : Type} (X : vjX) (Y : vjY S) (cc : ByteArray) (own : String) (Rm : Room) (σ : S) : Prop :=
  ∀ (pc ik is ic sa : Nat) (text : String) (L : List (Nat × Value)) (a b : Nat), Cond.classLink own ik nseN ∈ lwG → Cond.initialized nseN ∈ lwG → vk_R own is text sa X.2.2.2.2.1 → (∀ w ∈ (nseW own ic).filter vx_no, w ∈ lwG ∨ (w.onTables = true ∧ va_Nw w X.2.2.2.2.1)) → 5 < Rm.frames → 82 ≤ Rm.locals → a + 1 ≤ Rm.cells → b + 6 ≤ Rm.slots →
    decode cc pc = .ok (.new ik, 3) → decode cc (pc + 3) = .ok (.dup, 1) → ((decode cc (pc + 4) = .ok (.ldc is, 2) ∧ decode cc (pc + 6) = .ok (.invokespecial ic, 3) ∧ decode cc (pc + 9) = .ok (.athrow, 1)) ∨ (decode cc (pc + 4) = .ok (.ldc_w is, 3) ∧ decode cc (pc + 7) = .ok (.invokespecial ic, 3) ∧ decode cc (pc + 10) = .ok (.athrow, 1))) → J X Y a b pc L [] σ
def EndX {S : Type} (X : vjX) (Y : vjY S) (cc : ByteArray) (own : String) (Rm : Room) (o : So S) : Prop := o.2.1 ≠ 0 → XOK X Y Rm o.2.1 o.1 ∧ XTH X Y cc own Rm o.2.1 o.1 ∧ (o.2.1 = 4 → XTN X Y cc own Rm o.1)
def CxI {S : Type} (Z : vZ) (l : Launch) (y : MethodName) (cc : ByteArray) (maxL : Nat) (ret : Option FieldType) (rm : Room) (wl : S → va_W) (wf : S → Prop) (G : va_G) (tys : List (ClassId × FieldType)) (av : List Value) (σ : S) (o : So S) : Prop :=
  ∀ sz : Nat, vx_Met l y (Cond.code y cc maxL ret :: lwG) rm (va_Pc av (preZ Z wl G tys sz σ)) (va_Qi (fun (r : Int32) (_ : Unit) => o.2.1 = 0 ∧ r = Int32.ofInt o.2.2 ∧ (rng o.2.2 ∧ nar ret o.2.2) ∧ wf o.1) (fun _ t => va_P G vwCl (wl o.1) t.heap ∧ va_D (va_A (wl σ) sz) (wl o.1)) (va_A (wl σ) sz)) (vx_X (fun _ : Unit => o.2.1 ≠ 0 ∧ wf o.1) (fun E _ t => E = xn o.2.1 ∧ va_P G vwCl (wl o.1) t.heap ∧ va_D (va_A (wl σ) sz) (wl o.1)) (va_A (wl σ) sz)) rm.cells rm.slots (va_A (wl σ) sz)
def CxV {S : Type} (Z : vZ) (l : Launch) (y : MethodName) (cc : ByteArray) (maxL : Nat) (rm : Room) (wl : S → va_W) (wf : S → Prop) (G : va_G) (tys : List (ClassId × FieldType)) (av : List Value) (σ : S) (o : So S) : Prop :=
  ∀ sz : Nat, vx_Met l y (Cond.code y cc maxL none :: lwG) rm (va_Pc av (preZ Z wl G tys sz σ)) (va_Qv (fun _ : Unit => o.2.1 = 0 ∧ wf o.1) (fun _ t => va_P G vwCl (wl o.1) t.heap ∧ va_D (va_A (wl σ) sz) (wl o.1)) (va_A (wl σ) sz)) (vx_X (fun _ : Unit => o.2.1 ≠ 0 ∧ wf o.1) (fun E _ t => E = xn o.2.1 ∧ va_P G vwCl (wl o.1) t.heap ∧ va_D (va_A (wl σ) sz) (wl o.1)) (va_A (wl σ) sz)) rm.cells rm.slots (va_A (wl σ) sz)
section CX
variable {S O : Type} {Z : vZ} {E : Nat → Nat → Nat} {l : Launch} {y : MethodName} {cc : ByteArray} {maxL : Nat} {rm : Room} {wl : S → va_W} {wf : S → Prop} {G : va_G} {tys : List (ClassId × FieldType)} {av : List Value} {σ : S}
/-- the ends by an exception, of any method that owes vx_MQ -/
theorem endX_of {ret : Option FieldType} {p : Program} {e : Env} {s : State} {m : MethodId} {args : Array Value} {below : List Frame} {meth : Method} {c : Code} {A : Nat → Prop} {Qc : Array Value → State → Outcome → State → Prop} {o : So S} (hst : l.stackTraces = false) (zx : ZX Z) (hZ : Z A s s.heap)
    (C : Cx (p, l, e, rm, s, m, args, below, meth, c) (wl, wf, G, A, maxL, vx_MQ below Qc (vx_X (fun _ : Unit => o.2.1 ≠ 0 ∧ wf o.1) (fun E _ t => E = xn o.2.1 ∧ va_P G vwCl (wl o.1) t.heap ∧ va_D A (wl o.1)) A) args s rm.cells rm.slots A) cc y.cls ret rm tys) (ht : ∀ x ∈ c.exceptionTable.toList, False) :
    EndX (p, l, e, rm, s, m, args, below, meth, c) (wl, wf, G, A, maxL, vx_MQ below Qc (vx_X (fun _ : Unit => o.2.1 ≠ 0 ∧ wf o.1) (fun E _ t => E = xn o.2.1 ∧ va_P G vwCl (wl o.1) t.heap ∧ va_D A (wl o.1)) A) args s rm.cells rm.slots A) cc y.cls rm o := by
  intro hx0
  obtain ⟨hx, hb, hml, hown, hts, hK, hA, hlk, hRm, hret⟩ := C
  have grow : ∀ {H : Heap} {locs : List Loc} {t : State}, va_P G vwCl (wl o.1) H → va_D A (wl o.1) → va_S A s.heap H locs → wf o.1 → H.size ≤ t.heap.size → (∀ q : Nat, q < H.size → t.heap[q]? = H[q]?) → vx_X (fun _ : Unit => o.2.1 ≠ 0 ∧ wf o.1) (fun E _ t => E = xn o.2.1 ∧ va_P G vwCl (wl o.1) t.heap ∧ va_D A (wl o.1)) A (xn o.2.1) s t := by
    intro H locs t hP hD hS hw hz hk
    refine ⟨(), ⟨hx0, hw⟩, ⟨rfl, hP.kept (fun k q hq => hk _ (vx_lt hP hq)), hD⟩, Nat.le_trans hS.1 hz, fun q h1 h2 => ?_⟩
    rw [hk q (Nat.lt_of_lt_of_le h1 hS.1)]
    exact hS.2.1 q h1 h2
  refine ⟨fun H locs ls pc st q ce hP hD hS hw hq hv hcl => ?_, ?_, ?_⟩
  · exact vx_out (fun x h => (ht x h).elim) hlk hq hv hcl (fun t h1 h2 => grow hP hD hS hw (by rw [h1]; exact Nat.le_refl _) (fun q _ => by rw [h1])) hS.2.2 (Nat.le_refl _) (Nat.le_refl _)
  · intro pc ik is ic sa text names L a b hfit hnm hk hini hstr hat hfr hlo hca hsl d0 d3 d4 H locs ls hP hD hS hw hl
    have hgood : ∀ w ∈ Cond.classLink y.cls ik (xn o.2.1) :: Cond.initialized (xn o.2.1) :: vx_atS y.cls ic (xn o.2.1) names, vx_ot w = true := by
      have g : ∀ w ∈ lwG, vx_ot w = true := fun w hw => by unfold vx_ot; rw [(List.mem_filter.mp hw).2]; simp
      intro w hw
      rcases List.mem_cons.mp hw with rfl | hw
      · exact g _ hk
      rcases List.mem_cons.mp hw with rfl | hw
      · exact g _ hini
      · rcases hat w hw with h | ⟨h, -⟩
        · exact g _ h
        · unfold vx_ot; rw [h]; rfl
    replace hat : ∀ w ∈ vx_atS y.cls ic (xn o.2.1) names, w.before args s = true := fun w hw => (hat w hw).elim (hts w) (fun h => va_Nw.use h.1 h.2)
    obtain ⟨z1, z2⟩ := zx A s s.heap hZ
    rcases d4 with ⟨d4, d6, d9⟩ | ⟨d4, d6, d9⟩
    · exact vx_throwS hx hb hst hown hfit hnm (hts _ hk) (hts _ hini) hstr hat hgood z1 z2 hS (hl.1.trans hml.symm) d0 d3 d4 d6 d9 (fun x h => (ht x h).elim) hfr (by simpa using hlo) hca hsl hlk (fun t _ h2 h3 => grow hP hD hS hw h2 h3) hS.2.2 hca hsl
    · exact vx_throwSW hx hb hst hown hfit hnm (hts _ hk) (hts _ hini) hstr hat hgood z1 z2 hS (hl.1.trans hml.symm) d0 d3 d4 d6 d9 (fun x h => (ht x h).elim) hfr (by simpa using hlo) hca hsl hlk (fun t _ h2 h3 => grow hP hD hS hw h2 h3) hS.2.2 hca hsl
  · intro h4 pc ik is ic sa text L a b hk hini hstr hat hfr hlo hca hsl d0 d3 d4 H locs ls hP hD hS hw hl
    have e4 : xn o.2.1 = nseN := by rw [h4]; rfl
    have hgood : ∀ w ∈ Cond.classLink y.cls ik nseN :: Cond.initialized nseN :: (nseW y.cls ic).filter vx_no, vx_ot w = true := by
      have g : ∀ w ∈ lwG, vx_ot w = true := fun w hw => by unfold vx_ot; rw [(List.mem_filter.mp hw).2]; simp
      intro w hw
      rcases List.mem_cons.mp hw with rfl | hw
      · exact g _ hk
      rcases List.mem_cons.mp hw with rfl | hw
      · exact g _ hini
      · rcases hat w hw with h | ⟨h, -⟩
        · exact g _ h
        · unfold vx_ot; rw [h]; rfl
    replace hat : ∀ w ∈ (nseW y.cls ic).filter vx_no, w.before args s = true := fun w hw => (hat w hw).elim (hts w) (fun h => va_Nw.use h.1 h.2)
    obtain ⟨z1, z2⟩ := zx A s s.heap hZ
    rcases d4 with ⟨d4, d6, d9⟩ | ⟨d4, d6, d9⟩
    · exact nse_throwS hx hb hst hown (hts _ hk) (hts _ hini) hstr hat hgood z1 z2 hS (hl.1.trans hml.symm) d0 d3 d4 d6 d9 (fun x h => (ht x h).elim) hfr (by simpa using hlo) hca hsl hlk (fun t _ h2 h3 => e4 ▸ grow hP hD hS hw h2 h3) hS.2.2 hca hsl
    · exact nse_throwSW hx hb hst hown (hts _ hk) (hts _ hini) hstr hat hgood z1 z2 hS (hl.1.trans hml.symm) d0 d3 d4 d6 d9 (fun x h => (ht x h).elim) hfr (by simpa using hlo) hca hsl hlk (fun t _ h2 h3 => e4 ▸ grow hP hD hS hw h2 h3) hS.2.2 hca hsl
/-- at the method's end by a return, with v on the stack -/
def EndXI {S : Type} (X : vjX) (Y : vjY S) (cc : ByteArray) (Rm : Room) (ty : FieldType) (o : So S) : Prop := o.2.1 = 0 → ∀ (pc : Nat) (L : List (Nat × Value)), decode cc pc = .ok (.ireturn, 1) → rng o.2.2 → narrow ty (vi o.2.2) = vi o.2.2 → J X Y Rm.cells Rm.slots pc L [vi o.2.2] o.1
def EndXV {S : Type} (X : vjX) (Y : vjY S) (cc : ByteArray) (Rm : Room) (o : So S) : Prop := o.2.1 = 0 → ∀ (pc : Nat) (L : List (Nat × Value)), decode cc pc = .ok (.return_, 1) → J X Y Rm.cells Rm.slots pc L [] o.1
theorem cxI_of (zk : Zok Z) (zx : ZX Z) (hst : l.stackTraces = false) {ty : FieldType} (hy : plainName y.cls = true) (hf : (lg_sl av).length ≤ maxL) (hw : wf σ) (o : So S) {r : Option (So S)} (hr : r = some o)
    (body : ∀ (X : vjX) (A : Nat → Prop) (Q : State → Prop), Zx Z X (wl, wf, G, A, maxL, Q) → X.2.1 = l → Cx X (wl, wf, G, A, maxL, Q) cc y.cls (some ty) rm tys → T X (wl, wf, G, A, maxL, Q) (fun w => EndXI X (wl, wf, G, A, maxL, Q) cc rm ty w ∧ EndX X (wl, wf, G, A, maxL, Q) cc y.cls rm w) 0 0 0 (lv_args 0 av) [] σ r) :
    CxI Z l y cc maxL (some ty) rm wl wf G tys av σ o := by
  intro sz
  refine vx_ofW (cc := cc) (maxL := maxL) (ret := some ty) hy rfl ?_
  intro p e s m args below meth c s₁ B hml ht hv
  obtain ⟨rfl, ⟨hsz, hP, hK, hD0⟩, hZ⟩ := hv
  have hts := atoms_spec (ws := Cond.code y cc maxL (some ty) :: lwG) B.pre
  subst hsz
  have hD := hD0.self (sz := s.heap.size)
  have hl := lv_entry av (n := maxL) hf
  rw [lg_entry_eq]
  have C : ∀ Q : State → Prop, Cx (p, l, e, (headSpec (Cond.code y cc maxL (some ty) :: lwG) rm).room, s, m, av.toArray, below, meth, c) (wl, wf, G, va_A (wl σ) s.heap.size, maxL, Q) cc y.cls (some ty) rm tys := fun Q => ⟨B.exec, B.bytes, hml, findClass_of_methodNamed B.named, fun w h => hts w (List.mem_cons_of_mem _ h), hK, fun q h => Or.inr h, B.notSynchronized, rfl, B.returns⟩
  refine body (p, l, e, (headSpec (Cond.code y cc maxL (some ty) :: lwG) rm).room, s, m, av.toArray, below, meth, c) (va_A (wl σ) s.heap.size) _ hZ rfl (C _) o hr ⟨?_, endX_of (y := y) hst zx hZ (C _) ht⟩ s.heap [] _ hP hD va_S.rf hw hl
  intro hx0 pc L d hrg hn H locs ls hP hD hS hw hl
  exact vx_ret (W.zret (v := Int32.ofInt o.2.2) B.exec B.bytes B.returns hn (fun t ht hW => ⟨⟨Int32.ofInt o.2.2, (), rfl, ⟨hx0, rfl, ⟨hrg, fun ty' e' => by cases e'; exact hn⟩, hw⟩, by rw [ht]; exact hP, hD⟩, hS.F ht⟩) hS.2.2 d B.notSynchronized)
theorem cxV_of (zk : Zok Z) (zx : ZX Z) (hst : l.stackTraces = false) (hy : plainName y.cls = true) (hf : (lg_sl av).length ≤ maxL) (hw : wf σ) (o : So S) {r : Option (So S)} (hr : r = some o)
    (body : ∀ (X : vjX) (A : Nat → Prop) (Q : State → Prop), Zx Z X (wl, wf, G, A, maxL, Q) → X.2.1 = l → Cx X (wl, wf, G, A, maxL, Q) cc y.cls none rm tys → T X (wl, wf, G, A, maxL, Q) (fun w => EndXV X (wl, wf, G, A, maxL, Q) cc rm w ∧ EndX X (wl, wf, G, A, maxL, Q) cc y.cls rm w) 0 0 0 (lv_args 0 av) [] σ r) :
    CxV Z l y cc maxL rm wl wf G tys av σ o := by
  intro sz
  refine vx_ofW (cc := cc) (maxL := maxL) (ret := none) hy rfl ?_
  intro p e s m args below meth c s₁ B hml ht hv
  obtain ⟨rfl, ⟨hsz, hP, hK, hD0⟩, hZ⟩ := hv
  have hts := atoms_spec (ws := Cond.code y cc maxL none :: lwG) B.pre
  subst hsz
  have hD := hD0.self (sz := s.heap.size)
  have hl := lv_entry av (n := maxL) hf
  rw [lg_entry_eq]
  have C : ∀ Q : State → Prop, Cx (p, l, e, (headSpec (Cond.code y cc maxL none :: lwG) rm).room, s, m, av.toArray, below, meth, c) (wl, wf, G, va_A (wl σ) s.heap.size, maxL, Q) cc y.cls none rm tys := fun Q => ⟨B.exec, B.bytes, hml, findClass_of_methodNamed B.named, fun w h => hts w (List.mem_cons_of_mem _ h), hK, fun q h => Or.inr h, B.notSynchronized, rfl, B.returns⟩
  refine body (p, l, e, (headSpec (Cond.code y cc maxL none :: lwG) rm).room, s, m, av.toArray, below, meth, c) (va_A (wl σ) s.heap.size) _ hZ rfl (C _) o hr ⟨?_, endX_of (y := y) hst zx hZ (C _) ht⟩ s.heap [] _ hP hD va_S.rf hw hl
  intro hx0 pc L d H locs ls hP hD hS hw hl
  exact vx_ret (W.vret B.exec B.bytes B.returns (fun t ht hW => ⟨⟨(), rfl, ⟨hx0, hw⟩, by rw [ht]; exact hP, hD⟩, hS.F ht⟩) hS.2.2 d B.notSynchronized)
end CX
section CXC
variable {S O : Type} {Z : vZ} {E : Nat → Nat → Nat} {X : vjX} {Y : vjY S} {kp : O → Prop} {cc : ByteArray} {own : String} {ret : Option FieldType} {Rm : Room} {tys : List (ClassId × FieldType)} {a b pc : Nat} {L L' : List (Nat × Value)} {st : List Value} {σ : S}
variable {y : MethodName} {ccy : ByteArray} {maxL : Nat} {rety : Option FieldType} {rm : Room} {idx n : Nat}
theorem J_cxVi (zk : Zok Z) (hZ : Zx Z X Y) (C : Cx X Y cc own ret Rm tys) (As rest : List Value) (o : So S) {q : Nat} (ct : Y.2.1 σ → CxI Z X.2.1 y ccy maxL rety rm Y.1 Y.2.1 Y.2.2.1 tys (.ref q :: As) σ o) (hlink : Cond.methodLink own idx y ∈ lwG) (hm : cmV y ccy maxL rety n) (hrc : va_Rc (Y.1 σ) q y.cls) (hn : As.length = n) (hst : st = As.reverse ++ .ref q :: rest) (hcat : (rest.map fun v => v.category).sum ≤ 8) (hR : rmFit rm Rm maxL a b) {a' b' : Nat} (hab : a + rm.cells = a' ∧ b + rm.slots = b')
    (d : decode cc pc = .ok (.invokevirtual idx, 3)) (hx : o.2.1 ≠ 0 → XOK X Y Rm o.2.1 o.1) (K : o.2.1 = 0 → rng o.2.2 ∧ nar rety o.2.2 → J X Y a' b' (pc + 3) L (vi o.2.2 :: rest) o.1) : J X Y a b pc L st σ := by
  intro H locs ls hP hD hS hw hl
  obtain ⟨hx1, hb, hml, hown, hts, hK, hA, -, hRm, -⟩ := C
  obtain ⟨m1, m2, m3, m4, m5⟩ := hm
  obtain ⟨⟨r1, r2⟩, r3, r4⟩ := hR
  obtain ⟨rfl, rfl⟩ := hab
  have hF := callFree hA hD hS
  obtain ⟨q0, ci, fs, T0, N0, e1, e2⟩ := hrc
  subst hst
  refine vx_calli (vx_runV (As := As) (rest := rest) ⟨hx1, hb, hml, hown, hts⟩ (ct hw H.size) ⟨callB_of n hts (lwG_good m1) rfl rfl rfl (hts _ m2) (hts _ hlink) m3 (by rw [hRm]; exact ⟨r1, r2⟩), hts _ m4, hts _ m5⟩ ⟨preZ_blind zk, va_recv hK hP e2 e1, fun U hU hW => ⟨rfl, ⟨by rw [hU], by rw [hU]; exact hP, va_K.moved hW.alike hK, hD.weaken (fun _ _ _ _ => trivial)⟩, by rw [hU]; exact zk.2.2 _ _ _ _ (zk.1 _ _ _ _ hW (zk.2.1 _ _ _ _ hZ hS.2.1)) hF⟩⟩ rfl hn hl.1 rfl (lv_room hcat) d (by rw [hRm]; exact ⟨r3, r4⟩)) hS (fun q _ h => hF q h) hF (fun q _ h => hF q h) (fun Ex ce q9 u t H1 locs1 ht hvm hpx hB hz hk hS1 hq9 hv9 hc9 => ?_) (fun r u t H1 locs1 ht hvm hw1 hB hz hk hS1 => ?_)
  · obtain ⟨hx0, hwf⟩ := hpx
    obtain ⟨rfl, hP1, hD1⟩ := hB
    rw [ht] at hP1
    exact vx_widen r3 r4 (hx hx0 H1 locs1 ls pc rest q9 ce hP1 (hD1.weaken (fun _ q _ h => hF q.1 h)) hS1 hwf hq9 hv9 hc9)
  · obtain ⟨h0, rfl, hr, hwf⟩ := hw1
    obtain ⟨hP1, hD1⟩ := hB
    rw [ht] at hP1
    exact K h0 hr H1 locs1 ls hP1 (hD1.weaken (fun _ q _ h => hF q.1 h)) hS1 hwf hl
theorem J_cxSi (zk : Zok Z) (hZ : Zx Z X Y) (C : Cx X Y cc own ret Rm tys) (As rest : List Value) (o : So S) (ct : Y.2.1 σ → CxI Z X.2.1 y ccy maxL rety rm Y.1 Y.2.1 Y.2.2.1 tys As σ o) (hlink : Cond.methodLink own idx y ∈ lwG) (hm : cmS y ccy maxL rety n) (hn : As.length = n) (hst : st = As.reverse ++ rest) (hcat : (rest.map fun v => v.category).sum ≤ 8) (hR : rmFit rm Rm maxL a b) {a' b' : Nat} (hab : a + rm.cells = a' ∧ b + rm.slots = b')
    (d : decode cc pc = .ok (.invokestatic idx, 3)) (hx : o.2.1 ≠ 0 → XOK X Y Rm o.2.1 o.1) (K : o.2.1 = 0 → rng o.2.2 ∧ nar rety o.2.2 → J X Y a' b' (pc + 3) L (vi o.2.2 :: rest) o.1) : J X Y a b pc L st σ := by
  intro H locs ls hP hD hS hw hl
  obtain ⟨hx1, hb, hml, hown, hts, hK, hA, -, hRm, -⟩ := C
  obtain ⟨m1, m2, m3, m4⟩ := hm
  obtain ⟨⟨r1, r2⟩, r3, r4⟩ := hR
  obtain ⟨rfl, rfl⟩ := hab
  have hF := callFree hA hD hS
  subst hst
  refine vx_calli (vx_runS (As := As) (rest := rest) ⟨hx1, hb, hml, hown, hts⟩ (ct hw H.size) ⟨callB_of n hts (lwG_good m1) rfl rfl rfl (hts _ m2) (hts _ hlink) m3 (by rw [hRm]; exact ⟨r1, r2⟩), hts _ m4⟩ ⟨preZ_blind zk, fun U hU hW => ⟨rfl, ⟨by rw [hU], by rw [hU]; exact hP, va_K.moved hW.alike hK, hD.weaken (fun _ _ _ _ => trivial)⟩, by rw [hU]; exact zk.2.2 _ _ _ _ (zk.1 _ _ _ _ hW (zk.2.1 _ _ _ _ hZ hS.2.1)) hF⟩⟩ rfl hn hl.1 rfl (lv_room hcat) d (by rw [hRm]; exact ⟨r3, r4⟩)) hS (fun q _ h => hF q h) hF (fun q _ h => hF q h) (fun Ex ce q9 u t H1 locs1 ht hvm hpx hB hz hk hS1 hq9 hv9 hc9 => ?_) (fun r u t H1 locs1 ht hvm hw1 hB hz hk hS1 => ?_)
  · obtain ⟨hx0, hwf⟩ := hpx
    obtain ⟨rfl, hP1, hD1⟩ := hB
    rw [ht] at hP1
    exact vx_widen r3 r4 (hx hx0 H1 locs1 ls pc rest q9 ce hP1 (hD1.weaken (fun _ q _ h => hF q.1 h)) hS1 hwf hq9 hv9 hc9)
  · obtain ⟨h0, rfl, hr, hwf⟩ := hw1
    obtain ⟨hP1, hD1⟩ := hB
    rw [ht] at hP1
    exact K h0 hr H1 locs1 ls hP1 (hD1.weaken (fun _ q _ h => hF q.1 h)) hS1 hwf hl
theorem J_cxSv (zk : Zok Z) (hZ : Zx Z X Y) (C : Cx X Y cc own ret Rm tys) (As rest : List Value) (o : So S) (ct : Y.2.1 σ → CxV Z X.2.1 y ccy maxL rm Y.1 Y.2.1 Y.2.2.1 tys As σ o) (hlink : Cond.methodLink own idx y ∈ lwG) (hm : cmS y ccy maxL none n) (hn : As.length = n) (hst : st = As.reverse ++ rest) (hcat : (rest.map fun v => v.category).sum ≤ 8) (hR : rmFit rm Rm maxL a b) {a' b' : Nat} (hab : a + rm.cells = a' ∧ b + rm.slots = b')
    (d : decode cc pc = .ok (.invokestatic idx, 3)) (hx : o.2.1 ≠ 0 → XOK X Y Rm o.2.1 o.1) (K : o.2.1 = 0 → J X Y a' b' (pc + 3) L rest o.1) : J X Y a b pc L st σ := by
  intro H locs ls hP hD hS hw hl
  obtain ⟨hx1, hb, hml, hown, hts, hK, hA, -, hRm, -⟩ := C
  obtain ⟨m1, m2, m3, m4⟩ := hm
  obtain ⟨⟨r1, r2⟩, r3, r4⟩ := hR
  obtain ⟨rfl, rfl⟩ := hab
  have hF := callFree hA hD hS
  subst hst
  refine vx_callv (vx_runS (As := As) (rest := rest) ⟨hx1, hb, hml, hown, hts⟩ (ct hw H.size) ⟨callB_of n hts (lwG_good m1) rfl rfl rfl (hts _ m2) (hts _ hlink) m3 (by rw [hRm]; exact ⟨r1, r2⟩), hts _ m4⟩ ⟨preZ_blind zk, fun U hU hW => ⟨rfl, ⟨by rw [hU], by rw [hU]; exact hP, va_K.moved hW.alike hK, hD.weaken (fun _ _ _ _ => trivial)⟩, by rw [hU]; exact zk.2.2 _ _ _ _ (zk.1 _ _ _ _ hW (zk.2.1 _ _ _ _ hZ hS.2.1)) hF⟩⟩ rfl hn hl.1 rfl (lv_room hcat) d (by rw [hRm]; exact ⟨r3, r4⟩)) hS (fun q _ h => hF q h) hF (fun q _ h => hF q h) (fun Ex ce q9 u t H1 locs1 ht hvm hpx hB hz hk hS1 hq9 hv9 hc9 => ?_) (fun u t H1 locs1 ht hvm hw1 hB hz hk hS1 => ?_)
  · obtain ⟨hx0, hwf⟩ := hpx
    obtain ⟨rfl, hP1, hD1⟩ := hB
    rw [ht] at hP1
    exact vx_widen r3 r4 (hx hx0 H1 locs1 ls pc rest q9 ce hP1 (hD1.weaken (fun _ q _ h => hF q.1 h)) hS1 hwf hq9 hv9 hc9)
  · obtain ⟨h0, hwf⟩ := hw1
    obtain ⟨hP1, hD1⟩ := hB
    rw [ht] at hP1
    exact K h0 H1 locs1 ls hP1 (hD1.weaken (fun _ q _ h => hF q.1 h)) hS1 hwf hl
theorem T_cxVi (zk : Zok Z) (hZ : Zx Z X Y) (C : Cx X Y cc own ret Rm tys) (As rest : List Value) {q : Nat} {f : Option (So S)} {k : So S → Option O} {g : So S → O} (ct : ∀ o, f = some o → Y.2.1 σ → CxI Z X.2.1 y ccy maxL rety rm Y.1 Y.2.1 Y.2.2.1 tys (.ref q :: As) σ o) (hlink : Cond.methodLink own idx y ∈ lwG) (hm : cmV y ccy maxL rety n) (hrc : va_Rc (Y.1 σ) q y.cls) (hn : As.length = n) (hst : st = As.reverse ++ .ref q :: rest) (hcat : (rest.map fun v => v.category).sum ≤ 8) (hR : rmFit rm Rm maxL a b) {a' b' : Nat} (hab : a + rm.cells = a' ∧ b + rm.slots = b')
    (d : decode cc pc = .ok (.invokevirtual idx, 3)) (hx : ∀ o, kp (g o) → o.2.1 ≠ 0 → XOK X Y Rm o.2.1 o.1) (K : ∀ o : So S, rng o.2.2 ∧ nar rety o.2.2 → T X Y kp a' b' (pc + 3) L (vi o.2.2 :: rest) o.1 (k o)) : T X Y kp a b pc L st σ (f.bind fun o => if o.2.1 = 0 then k o else some (g o)) := fun w h hk => by
  obtain ⟨o, ho, h2⟩ := Option.bind_eq_some_iff.mp h
  refine J_cxVi zk hZ C As rest o (ct o ho) hlink hm hrc hn hst hcat hR hab d (fun h0 => ?_) (fun h0 hr => ?_)
  · rw [if_neg h0] at h2; cases h2; exact hx o hk h0
  · rw [if_pos h0] at h2; exact K o hr w h2 hk
theorem T_cxSi (zk : Zok Z) (hZ : Zx Z X Y) (C : Cx X Y cc own ret Rm tys) (As rest : List Value) {f : Option (So S)} {k : So S → Option O} {g : So S → O} (ct : ∀ o, f = some o → Y.2.1 σ → CxI Z X.2.1 y ccy maxL rety rm Y.1 Y.2.1 Y.2.2.1 tys As σ o) (hlink : Cond.methodLink own idx y ∈ lwG) (hm : cmS y ccy maxL rety n) (hn : As.length = n) (hst : st = As.reverse ++ rest) (hcat : (rest.map fun v => v.category).sum ≤ 8) (hR : rmFit rm Rm maxL a b) {a' b' : Nat} (hab : a + rm.cells = a' ∧ b + rm.slots = b')
    (d : decode cc pc = .ok (.invokestatic idx, 3)) (hx : ∀ o, kp (g o) → o.2.1 ≠ 0 → XOK X Y Rm o.2.1 o.1) (K : ∀ o : So S, rng o.2.2 ∧ nar rety o.2.2 → T X Y kp a' b' (pc + 3) L (vi o.2.2 :: rest) o.1 (k o)) : T X Y kp a b pc L st σ (f.bind fun o => if o.2.1 = 0 then k o else some (g o)) := fun w h hk => by
  obtain ⟨o, ho, h2⟩ := Option.bind_eq_some_iff.mp h
  refine J_cxSi zk hZ C As rest o (ct o ho) hlink hm hn hst hcat hR hab d (fun h0 => ?_) (fun h0 hr => ?_)
  · rw [if_neg h0] at h2; cases h2; exact hx o hk h0
  · rw [if_pos h0] at h2; exact K o hr w h2 hk
theorem T_cxSv (zk : Zok Z) (hZ : Zx Z X Y) (C : Cx X Y cc own ret Rm tys) (As rest : List Value) {f : Option (So S)} {k : So S → Option O} {g : So S → O} (ct : ∀ o, f = some o → Y.2.1 σ → CxV Z X.2.1 y ccy maxL rm Y.1 Y.2.1 Y.2.2.1 tys As σ o) (hlink : Cond.methodLink own idx y ∈ lwG) (hm : cmS y ccy maxL none n) (hn : As.length = n) (hst : st = As.reverse ++ rest) (hcat : (rest.map fun v => v.category).sum ≤ 8) (hR : rmFit rm Rm maxL a b) {a' b' : Nat} (hab : a + rm.cells = a' ∧ b + rm.slots = b')
    (d : decode cc pc = .ok (.invokestatic idx, 3)) (hx : ∀ o, kp (g o) → o.2.1 ≠ 0 → XOK X Y Rm o.2.1 o.1) (K : ∀ o : So S, T X Y kp a' b' (pc + 3) L rest o.1 (k o)) : T X Y kp a b pc L st σ (f.bind fun o => if o.2.1 = 0 then k o else some (g o)) := fun w h hk => by
  obtain ⟨o, ho, h2⟩ := Option.bind_eq_some_iff.mp h
  refine J_cxSv zk hZ C As rest o (ct o ho) hlink hm hn hst hcat hR hab d (fun h0 => ?_) (fun h0 => ?_)
  · rw [if_neg h0] at h2; cases h2; exact hx o hk h0
  · rw [if_pos h0] at h2; exact K o w h2 hk
/-- the ends -/
theorem T_xiret {ty : FieldType} {v : Int} (w : O) (o : So S) (ho : o = (σ, 0, v)) (hk : kp w → EndXI X Y cc Rm ty o) (hr : rng v) (hn : narrow ty (vi v) = vi v) (hc : a ≤ Rm.cells ∧ b ≤ Rm.slots) (d : decode cc pc = .ok (.ireturn, 1)) : T X Y kp a b pc L [vi v] σ (some w) := fun w2 h hko => by
  cases h
  subst ho
  exact fun H locs ls hP hD hS hw hl => W.widen hc.1 hc.2 (hk hko rfl pc L d hr hn H locs ls hP hD hS hw hl)
theorem T_xvret (w : O) (o : So S) (ho : o = (σ, 0, 0)) (hk : kp w → EndXV X Y cc Rm o) (hc : a ≤ Rm.cells ∧ b ≤ Rm.slots) (d : decode cc pc = .ok (.return_, 1)) : T X Y kp a b pc L [] σ (some w) := fun w2 h hko => by
  cases h
  subst ho
  exact fun H locs ls hP hD hS hw hl => W.widen hc.1 hc.2 (hk hko rfl pc L d H locs ls hP hD hS hw hl)
theorem T_throw (x : Nat) (w : O) (hk : kp w → EndX X Y cc own Rm (σ, x, 0)) (hx0 : x ≠ 0) {ik is ic : Nat} (sa : Nat) (text cls : String) (hcls : xn x = cls) (names : List String) (hfit : Bundle.fit cls = true) (hnm : ∀ n ∈ names, Bundle.fit n = true) (hlink : Cond.classLink own ik cls ∈ lwG) (hini : Cond.initialized cls ∈ lwG) (hstr : vk_R own is text sa X.2.2.2.2.1) (hat : ∀ w ∈ vx_atS own ic cls names, w ∈ lwG ∨ (w.onTables = true ∧ va_Nw w X.2.2.2.2.1)) (hfr : names.length + 3 < Rm.frames) (hlo : 13 * (names.length + 1) + 43 ≤ Rm.locals) (hc : a + 1 ≤ Rm.cells ∧ b + 6 ≤ Rm.slots) (d0 : decode cc pc = .ok (.new ik, 3)) (d3 : decode cc (pc + 3) = .ok (.dup, 1)) (d4 : (decode cc (pc + 4) = .ok (.ldc is, 2) ∧ decode cc (pc + 6) = .ok (.invokespecial ic, 3) ∧ decode cc (pc + 9) = .ok (.athrow, 1)) ∨ (decode cc (pc + 4) = .ok (.ldc_w is, 3) ∧ decode cc (pc + 7) = .ok (.invokespecial ic, 3) ∧ decode cc (pc + 10) = .ok (.athrow, 1))) : T X Y kp a b pc L [] σ (some w) := fun w2 h hko => by
  cases h
  subst hcls
  exact (hk hko hx0).2.1 pc ik is ic sa text names L a b hfit hnm hlink hini hstr hat hfr hlo hc.1 hc.2 d0 d3 d4
theorem T_throwN (w : O) (hk : kp w → EndX X Y cc own Rm (σ, 4, 0)) {ik is ic : Nat} (sa : Nat) (text : String) (hlink : Cond.classLink own ik nseN ∈ lwG) (hini : Cond.initialized nseN ∈ lwG) (hstr : vk_R own is text sa X.2.2.2.2.1) (hat : ∀ w ∈ (nseW own ic).filter vx_no, w ∈ lwG ∨ (w.onTables = true ∧ va_Nw w X.2.2.2.2.1)) (hfr : 5 < Rm.frames) (hlo : 82 ≤ Rm.locals) (hc : a + 1 ≤ Rm.cells ∧ b + 6 ≤ Rm.slots) (d0 : decode cc pc = .ok (.new ik, 3)) (d3 : decode cc (pc + 3) = .ok (.dup, 1)) (d4 : (decode cc (pc + 4) = .ok (.ldc is, 2) ∧ decode cc (pc + 6) = .ok (.invokespecial ic, 3) ∧ decode cc (pc + 9) = .ok (.athrow, 1)) ∨ (decode cc (pc + 4) = .ok (.ldc_w is, 3) ∧ decode cc (pc + 7) = .ok (.invokespecial ic, 3) ∧ decode cc (pc + 10) = .ok (.athrow, 1))) : T X Y kp a b pc L [] σ (some w) := fun w2 h hko => by
  cases h
  exact (hk hko (show (4 : Nat) ≠ 0 by decide)).2.2 rfl pc ik is ic sa text L a b hlink hini hstr hat hfr hlo hc.1 hc.2 d0 d3 d4
end CXC
