/-! THE CLASS'S WORLD: 392 roles in the order in which they are made; σ role index. Kinds: 12 the class 8 network 11 tickets 10 ticket 7 line 6 history 1 arrivals 2 boardings 5 flows 9 script 40 builder; arrays: 20 int10 21 int100 22 int6 23 int30 24 int64 25 boolean10 26 char60 27 lines 28 row 29 kept 30 commands -/
def kdN : List Nat := [8, 20, 25, 21, 27, 11, 28, 10, 10, 10, 10, 10, 10, 10, 10, 10, 10, 10, 10, 10, 10, 10, 10, 7, 22, 7, 22, 7, 22, 7, 22, 7, 22]
def kdL : List Nat := [12] ++ kdN ++ kdN ++ kdN ++ [6, 29] ++ kdN ++ kdN ++ kdN ++ kdN ++ kdN ++ kdN ++ kdN ++ kdN ++ [1, 20, 20, 25, 25, 1, 20, 20, 25, 25, 2, 20, 21, 5, 21, 20, 20, 23, 23, 23, 9, 26, 30, 24, 40]
def kd (r : Nat) : Nat := kdL.getD r 99
def alen (K : Nat) : Nat := if K = 20 then 10 else if K = 21 then 100 else if K = 22 then 6 else if K = 23 then 30 else if K = 24 then 64 else if K = 25 then 10 else if K = 26 then 60 else if K = 27 then 5 else if K = 28 then 16 else if K = 29 then 8 else 16
def ciK (K : Nat) : Nat := if K = 8 then 9 else if K = 11 then 12 else if K = 10 then 11 else if K = 7 then 8 else if K = 6 then 7 else if K = 1 then 4 else if K = 2 then 5 else if K = 5 then 6 else if K = 9 then 10 else if K = 12 then 13 else 1
abbrev ai (ad : Nat → Nat) (r : Nat) : Value := .ref (ad r)
/-- an object's fields in the order of its places -/
def fsK (ad : Nat → Nat) (K r : Nat) (f : Nat → Int) : List Value := match K with
  | 8 => [vi (f 0), vi (f 1), vi (f 2), ai ad (r + 1), ai ad (r + 2), vi (f 5), ai ad (r + 3), vi (f 7), ai ad (r + 4), ai ad (r + 5)]
  | 11 => [ai ad (r + 1), vi (f 1), vi (f 2), vi (f 3), vi (f 4), vi (f 5)]
  | 10 => [vi (f 0), vi (f 1), vi (f 2), vi (f 3), vi (f 4), vi (f 5)]
  | 7 => [vi (f 0), vi (f 1), vi (f 2), vi (f 3), vi (f 4), vi (f 5), vi (f 6), ai ad (r + 1)]
  | 6 => [ai ad (r + 1), vi (f 1), vi (f 2)]
  | 1 => [ai ad (r + 1), ai ad (r + 2), ai ad (r + 3), ai ad (r + 4)]
  | 2 => [ai ad (r + 1), ai ad (r + 2)]
  | 5 => [ai ad (r + 1), ai ad (r + 2), ai ad (r + 3), vi (f 3), ai ad (r + 4), ai ad (r + 5), ai ad (r + 6)]
  | 9 => [ai ad (r + 1), vi (f 1), vi (f 2), vi (f 3), ai ad (r + 2), ai ad (r + 3)]
  | 12 => [ai ad 1, ai ad 34, ai ad 67, vi (f 3), ai ad 100, ai ad 366, ai ad 371, ai ad 376, ai ad 379, ai ad 386, vi (f 10), vi (f 11), ai ad 390]
  | _ => [.ref (f 0).toNat, vi (f 1), vi (f 2), vi (f 3)]
/-- an array's ints, and the place of its class -/
def cyK (K : Nat) : Nat := if K = 25 then 1 else if K = 26 then 2 else 0
abbrev arI (cy : Nat → ClassId) (K : Nat) (f : Nat → Int) : va_E := .inl (cy (cyK K), alen K, .inl (fun j => Int32.ofInt (f j)))
abbrev arQ (cy : Nat → ClassId) (c n : Nat) (f : Nat → Option Nat) : va_E := .inl (cy c, n, .inr (.inr (.inr (.inr f))))
def entK (cy : Nat → ClassId) (ad : Nat → Nat) (E : Nat → Nat → Nat) (K r : Nat) (f : Nat → Int) : va_E := match K with
  | 27 => arQ cy 3 5 (fun j => some (ad (r + 19 + 2 * j)))
  | 28 => arQ cy 4 16 (fun j => some (ad (f j).toNat))
  | 29 => arQ cy 5 8 (fun j => some (ad (102 + 33 * j)))
  | 30 => arQ cy 6 16 (fun j => some (E 1 (f j).toNat))
  | 20 => arI cy 20 f
  | 21 => arI cy 21 f
  | 22 => arI cy 22 f
  | 23 => arI cy 23 f
  | 24 => arI cy 24 f
  | 25 => arI cy 25 f
  | 26 => arI cy 26 f
  | K => .inr (ciK K, fsK ad K r f)
def wlc (cy : Nat → ClassId) (ad : Nat → Nat) (E : Nat → Nat → Nat) (σ : Sm) : va_W := (List.range 391).map (fun r => (ad r, entK cy ad E (kd r) r (σ r))) ++ [((σ 390 0).toNat, .inl (cy 7, (σ 390 9).toNat, .inl (fun j => Int32.ofInt (σ 391 j))))]
def okv (K i : Nat) (v : Int) : Prop := match K with
  | 28 => 0 ≤ v ∧ kd v.toNat = 10
  | 30 => 0 ≤ v ∧ v < 14
  | 25 => bit v
  | 26 => 0 ≤ v ∧ v < 65536
  | 40 => True
  | 8 => rng v ∧ (i = 1 → bit v)
  | 7 => rng v ∧ (i = 5 → bit v)
  | 12 => rng v ∧ (i = 3 → bit v)
  | _ => rng v
def wfc (σ : Sm) : Prop := ∀ r i, okv (kd r) i (σ r i)
def upf (f : Nat → Int) (i : Nat) (v : Int) : Nat → Int := fun j => if j = i then v else f j
theorem upm_self {σ : Sm} {r i : Nat} {v : Int} : upm σ r i v r = upf (σ r) i v := by funext j; simp [upm, upf]
theorem upm_ne {σ : Sm} {r i q : Nat} {v : Int} (h : q ≠ r) : upm σ r i v q = σ q := by funext j; simp [upm, h]
theorem wfc_up {σ : Sm} (h : wfc σ) {r i : Nat} {v : Int} (hv : okv (kd r) i v) : wfc (upm σ r i v) := fun q j => by
  unfold upm
  split
  · next e => obtain ⟨rfl, rfl⟩ := e; exact hv
  · exact h q j
theorem kd_lt {r : Nat} (h : kd r < 40) : r < 390 := by
  apply Decidable.byContradiction
  intro hn
  by_cases h2 : r = 390
  · subst h2; revert h; decide
  · have : kd r = 99 := by
      unfold kd
      have hl : kdL.length = 391 := by decide +kernel
      rw [List.getD_eq_getElem?_getD, List.getElem?_eq_none (by omega)]
      rfl
    omega
theorem wlc_len {cy : Nat → ClassId} {ad : Nat → Nat} {E : Nat → Nat → Nat} {σ : Sm} : (wlc cy ad E σ).length = 392 := by simp [wlc]
theorem wlc_at {cy : Nat → ClassId} {ad : Nat → Nat} {E : Nat → Nat → Nat} {σ : Sm} {r : Nat} (h : r < 391) : (wlc cy ad E σ)[r]? = some (ad r, entK cy ad E (kd r) r (σ r)) := by
  unfold wlc
  rw [List.getElem?_append_left (by simpa using h), List.getElem?_map, List.getElem?_range h]
  rfl
theorem wlc_set {cy : Nat → ClassId} {ad : Nat → Nat} {E : Nat → Nat → Nat} {σ τ : Sm} {r : Nat} (h : r < 390) (hτ : ∀ q, q ≠ r → τ q = σ q) : (wlc cy ad E σ).set r (ad r, entK cy ad E (kd r) r (τ r)) = wlc cy ad E τ := by
  apply List.ext_getElem?
  intro k
  by_cases hk : k = r
  · subst hk
    rw [List.getElem?_set_self (by rw [wlc_len]; omega), wlc_at (by omega)]
  · rw [List.getElem?_set_ne (fun e => hk e.symm)]
    by_cases h1 : k < 391
    · rw [wlc_at h1, wlc_at h1, hτ k hk]
    · unfold wlc
      rw [List.getElem?_append_right (by simpa using h1), List.getElem?_append_right (by simpa using h1), hτ 390 (by omega), hτ 391 (by omega)]
      simp
theorem arI_up (cy : Nat → ClassId) {K i : Nat} {f : Nat → Int} {v : Int} : arI cy K (upf f i v) = .inl (cy (cyK K), alen K, .inl (upd (fun j => Int32.ofInt (f j)) i (Int32.ofInt v))) := by
  have : (fun j => Int32.ofInt (upf f i v j)) = upd (fun j => Int32.ofInt (f j)) i (Int32.ofInt v) := by
    funext j
    by_cases h : j = i
    · subst h; simp [upf, upd]
    · simp [upf, upd, h]
  simp only [arI, this]
abbrev isIA (K : Nat) : Prop := 20 ≤ K ∧ K ≤ 24
theorem entK_ia {cy : Nat → ClassId} {ad : Nat → Nat} {E : Nat → Nat → Nat} {K r : Nat} {f : Nat → Int} (h : 20 ≤ K ∧ K ≤ 26) : entK cy ad E K r f = arI cy K f := by
  have : K = 20 ∨ K = 21 ∨ K = 22 ∨ K = 23 ∨ K = 24 ∨ K = 25 ∨ K = 26 := by omega
  rcases this with rfl | rfl | rfl | rfl | rfl | rfl | rfl <;> rfl
theorem alen_le (K : Nat) : alen K ≤ 2147483647 := by unfold alen; repeat' split
                                                      all_goals decide
theorem okv_ia {K i : Nat} {v : Int} (h : isIA K) : okv K i v = rng v := by
  have : K = 20 ∨ K = 21 ∨ K = 22 ∨ K = 23 ∨ K = 24 := by omega
  rcases this with rfl | rfl | rfl | rfl | rfl <;> rfl
abbrev tyc (cy : Nat → ClassId) : List (ClassId × FieldType) := [(cy 0, .int), (cy 1, .boolean), (cy 2, .char), (cy 3, .object "RingTransit$Line"), (cy 4, .object "RingTransit$Ticket"), (cy 5, .object "RingTransit$Network"), (cy 6, .object "RingTransit$Command"), (cy 7, .byte)]
/-! what the class's static things are -/
abbrev vZ : Type := (Nat → Prop) → State → Heap → Prop
def Zok (Z : vZ) : Prop := (∀ (A : Nat → Prop) (u U : State) (H : Heap), u.WarmedH U.vm → Z A u H → Z A U H) ∧ (∀ (A : Nat → Prop) (U : State) (H H1 : Heap), Z A U H → (∀ a : Nat, a < H.size → ¬ A a → H1[a]? = H[a]?) → Z A U H1) ∧ (∀ (A B : Nat → Prop) (U : State) (H : Heap), Z A U H → (∀ q, B q → A q) → Z B U H)
def nmF : List String := ["NOTHING", "INDEX", "ARGUMENT", "STATE", "ELEMENT", "UNSUPPORTED"]
def fdF : List (String × String × String × List Int32) := [("java/lang/Enum", "ordinal", "I", [0, 1, 2, 3, 4, 5])]
def ZF (Z : vZ) (E : Nat → Nat → Nat) : Prop := ∀ (A : Nat → Prop) (U : State) (H : Heap), Z A U H → va_En "RingTransit$Fault" "LRingTransit$Fault;" nmF fdF (E 0) A U H
def Zk (Z : vZ) (E : Nat → Nat → Nat) : Prop := Zok Z ∧ ZF Z E
abbrev ve (E : Nat → Nat → Nat) (k : Nat) (z : Int) : Value := .ref (E k z.toNat)
def Zx {S : Type} (Z : vZ) (X : vjX) (Y : vjY S) : Prop := Z Y.2.2.2.1 X.2.2.2.2.1 X.2.2.2.2.1.heap
def preZ {S : Type} (Z : vZ) (wl : S → va_W) (G : va_G) (tys : List (ClassId × FieldType)) (sz : Nat) (σ : S) : State → Prop := fun U => preJ wl G tys sz σ U ∧ Z (va_A (wl σ) sz) U U.heap
theorem preZ_blind {S : Type} {Z : vZ} (zk : Zok Z) {wl : S → va_W} {G : va_G} {tys : List (ClassId × FieldType)} {sz : Nat} {σ : S} {av : List Value} : FrameBlind (va_Pc av (preZ Z wl G tys sz σ)) := fun a U g mk q => by
  obtain ⟨q0, ⟨q1, qP, qK, qD⟩, qZ⟩ := q
  exact ⟨q0, ⟨q1, qP, va_K.moved (u := U) (U := U.calling g mk a) (Vm.Alike.refl U.vm) qK, qD⟩, zk.1 _ U (U.calling g mk a) _ (State.WarmedH.refl U) qZ⟩
def CzI {S : Type} (Z : vZ) (l : Launch) (y : MethodName) (cc : ByteArray) (maxL : Nat) (ret : Option FieldType) (rm : Room) (wl : S → va_W) (wf : S → Prop) (G : va_G) (tys : List (ClassId × FieldType)) (av : List Value) (σ σ' : S) (v : Int) : Prop :=
  ∀ sz : Nat, Met l y (Cond.code y cc maxL ret :: lwG) rm (va_Pc av (preZ Z wl G tys sz σ)) (va_Qi (fun (r : Int32) (_ : Unit) => r = Int32.ofInt v ∧ (rng v ∧ nar ret v) ∧ wf σ') (fun _ t => va_P G vwCl (wl σ') t.heap ∧ va_D (va_A (wl σ) sz) (wl σ')) (va_A (wl σ) sz)) rm.cells rm.slots (va_A (wl σ) sz)
def CzV {S : Type} (Z : vZ) (l : Launch) (y : MethodName) (cc : ByteArray) (maxL : Nat) (rm : Room) (wl : S → va_W) (wf : S → Prop) (G : va_G) (tys : List (ClassId × FieldType)) (av : List Value) (σ σ' : S) : Prop :=
  ∀ sz : Nat, Met l y (Cond.code y cc maxL none :: lwG) rm (va_Pc av (preZ Z wl G tys sz σ)) (va_Qv (fun (_ : Unit) => wf σ') (fun _ t => va_P G vwCl (wl σ') t.heap ∧ va_D (va_A (wl σ) sz) (wl σ')) (va_A (wl σ) sz)) rm.cells rm.slots (va_A (wl σ) sz)
/-- a constant of an enum comes back: the kind k, its place v < n -/
def CzE {S : Type} (Z : vZ) (E : Nat → Nat → Nat) (k : Nat) (n : Int) (l : Launch) (y : MethodName) (cc : ByteArray) (maxL : Nat) (ret : Option FieldType) (rm : Room) (wl : S → va_W) (wf : S → Prop) (G : va_G) (tys : List (ClassId × FieldType)) (av : List Value) (σ σ' : S) (v : Int) : Prop :=
  ∀ sz : Nat, Met l y (Cond.code y cc maxL ret :: lwG) rm (va_Pc av (preZ Z wl G tys sz σ)) (va_Qq (fun (r : Option Nat) (_ : Unit) => r = some (E k v.toNat) ∧ (0 ≤ v ∧ v < n) ∧ wf σ') (fun _ t => va_P G vwCl (wl σ') t.heap ∧ va_D (va_A (wl σ) sz) (wl σ')) (va_A (wl σ) sz)) rm.cells rm.slots (va_A (wl σ) sz)
def EndE {S : Type} (E : Nat → Nat → Nat) (k : Nat) (n : Int) (X : vjX) (Y : vjY S) (cc : ByteArray) (Rm : Room) (o : S × Int) : Prop := ∀ (pc : Nat) (L : List (Nat × Value)), decode cc pc = .ok (.areturn, 1) → (0 ≤ o.2 ∧ o.2 < n) → J X Y Rm.cells Rm.slots pc L [ve E k o.2] o.1
section CZ
variable {S O : Type} {Z : vZ} {E : Nat → Nat → Nat} {l : Launch} {y : MethodName} {cc : ByteArray} {maxL : Nat} {rm : Room} {wl : S → va_W} {wf : S → Prop} {G : va_G} {tys : List (ClassId × FieldType)} {av : List Value} {σ : S}
theorem czI_of (zk : Zok Z) {ty : FieldType} (hy : plainFor y = true) (hf : (lg_sl av).length ≤ maxL) (hw : wf σ) (o : S × Int) {r : Option O} (w : O) (hr : r = some w) (kp : vjX → vjY S → O → Prop) (hkp : ∀ X Y, EndI X Y cc rm ty o → kp X Y w)
    (body : ∀ (X : vjX) (A : Nat → Prop) (Q : State → Prop), Zx Z X (wl, wf, G, A, maxL, Q) → X.2.1 = l → Cx X (wl, wf, G, A, maxL, Q) cc y.cls (some ty) rm tys → T X (wl, wf, G, A, maxL, Q) (kp X (wl, wf, G, A, maxL, Q)) 0 0 0 (lv_args 0 av) [] σ r) :
    CzI Z l y cc maxL (some ty) rm wl wf G tys av σ o.1 o.2 := by
  intro sz
  refine va_MetF (cc := cc) (maxL := maxL) (ret := some ty) hy rfl ?_
  intro p e s m args below meth c s₁ B hml hv
  obtain ⟨rfl, ⟨hsz, hP, hK, hD0⟩, hZ⟩ := hv
  have hts := atoms_spec (ws := Cond.code y cc maxL (some ty) :: lwG) B.pre
  subst hsz
  have hD := hD0.self (sz := s.heap.size)
  have hl := lv_entry av (n := maxL) hf
  rw [lg_entry_eq]
  refine body (p, l, e, (headSpec (Cond.code y cc maxL (some ty) :: lwG) rm).room, s, m, av.toArray, below, meth, c) (va_A (wl σ) s.heap.size) _ hZ rfl ⟨B.exec, B.bytes, hml, findClass_of_methodNamed B.named, fun w h => hts w (List.mem_cons_of_mem _ h), hK, fun q h => Or.inr h, B.notSynchronized, rfl, B.returns⟩ w hr (hkp _ _ ?_) s.heap [] _ hP hD va_S.rf hw hl
  intro pc L d hrg hn H locs ls hP hD hS hw hl
  exact W.zret (v := Int32.ofInt o.2) B.exec B.bytes B.returns hn (fun t ht hW => ⟨⟨Int32.ofInt o.2, (), rfl, ⟨rfl, ⟨hrg, fun ty' e' => by cases e'; exact hn⟩, hw⟩, by rw [ht]; exact hP, hD⟩, hS.F ht⟩) hS.2.2 d B.notSynchronized
theorem czV_of (zk : Zok Z) (hy : plainFor y = true) (hf : (lg_sl av).length ≤ maxL) (hw : wf σ) (o : S) {r : Option O} (w : O) (hr : r = some w) (kp : vjX → vjY S → O → Prop) (hkp : ∀ X Y, EndV X Y cc rm o → kp X Y w)
    (body : ∀ (X : vjX) (A : Nat → Prop) (Q : State → Prop), Zx Z X (wl, wf, G, A, maxL, Q) → X.2.1 = l → Cx X (wl, wf, G, A, maxL, Q) cc y.cls none rm tys → T X (wl, wf, G, A, maxL, Q) (kp X (wl, wf, G, A, maxL, Q)) 0 0 0 (lv_args 0 av) [] σ r) :
    CzV Z l y cc maxL rm wl wf G tys av σ o := by
  intro sz
  refine va_MetF (cc := cc) (maxL := maxL) (ret := none) hy rfl ?_
  intro p e s m args below meth c s₁ B hml hv
  obtain ⟨rfl, ⟨hsz, hP, hK, hD0⟩, hZ⟩ := hv
  have hts := atoms_spec (ws := Cond.code y cc maxL none :: lwG) B.pre
  subst hsz
  have hD := hD0.self (sz := s.heap.size)
  have hl := lv_entry av (n := maxL) hf
  rw [lg_entry_eq]
  refine body (p, l, e, (headSpec (Cond.code y cc maxL none :: lwG) rm).room, s, m, av.toArray, below, meth, c) (va_A (wl σ) s.heap.size) _ hZ rfl ⟨B.exec, B.bytes, hml, findClass_of_methodNamed B.named, fun w h => hts w (List.mem_cons_of_mem _ h), hK, fun q h => Or.inr h, B.notSynchronized, rfl, B.returns⟩ w hr (hkp _ _ ?_) s.heap [] _ hP hD va_S.rf hw hl
  intro pc L d H locs ls hP hD hS hw hl
  exact W.vret B.exec B.bytes B.returns (fun t ht hW => ⟨⟨(), rfl, hw, by rw [ht]; exact hP, hD⟩, hS.F ht⟩) hS.2.2 d B.notSynchronized
theorem czE_of (zk : Zok Z) {k : Nat} {n : Int} {ty : String} (hy : plainFor y = true) (hf : (lg_sl av).length ≤ maxL) (hw : wf σ) (o : S × Int) {r : Option O} (w : O) (hr : r = some w) (kp : vjX → vjY S → O → Prop) (hkp : ∀ X Y, EndE E k n X Y cc rm o → kp X Y w)
    (body : ∀ (X : vjX) (A : Nat → Prop) (Q : State → Prop), Zx Z X (wl, wf, G, A, maxL, Q) → X.2.1 = l → Cx X (wl, wf, G, A, maxL, Q) cc y.cls (some (.object ty)) rm tys → T X (wl, wf, G, A, maxL, Q) (kp X (wl, wf, G, A, maxL, Q)) 0 0 0 (lv_args 0 av) [] σ r) :
    CzE Z E k n l y cc maxL (some (.object ty)) rm wl wf G tys av σ o.1 o.2 := by
  intro sz
  refine va_MetF (cc := cc) (maxL := maxL) (ret := some (.object ty)) hy rfl ?_
  intro p e s m args below meth c s₁ B hml hv
  obtain ⟨rfl, ⟨hsz, hP, hK, hD0⟩, hZ⟩ := hv
  have hts := atoms_spec (ws := Cond.code y cc maxL (some (.object ty)) :: lwG) B.pre
  subst hsz
  have hD := hD0.self (sz := s.heap.size)
  have hl := lv_entry av (n := maxL) hf
  rw [lg_entry_eq]
  refine body (p, l, e, (headSpec (Cond.code y cc maxL (some (.object ty)) :: lwG) rm).room, s, m, av.toArray, below, meth, c) (va_A (wl σ) s.heap.size) _ hZ rfl ⟨B.exec, B.bytes, hml, findClass_of_methodNamed B.named, fun w h => hts w (List.mem_cons_of_mem _ h), hK, fun q h => Or.inr h, B.notSynchronized, rfl, B.returns⟩ w hr (hkp _ _ ?_) s.heap [] _ hP hD va_S.rf hw hl
  intro pc L d hrg H locs ls hP hD hS hw hl
  exact W.aret (v := ve E k o.2) B.exec B.bytes B.returns (Or.inl ⟨_, rfl⟩) (Or.inr ⟨_, rfl⟩) (fun t ht hW => ⟨⟨some (E k o.2.toNat), (), rfl, ⟨rfl, hrg, hw⟩, by rw [ht]; exact hP, hD⟩, hS.F ht⟩) hS.2.2 d B.notSynchronized
end CZ
