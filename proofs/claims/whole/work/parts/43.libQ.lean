/-! the builder's methods: what is left open (the bytes' address, their number, what stands behind the text) comes as a relation -/
/-- the numbers' letters -/
def dgs : Nat → Nat → List Int
  | 0, _ => []
  | f + 1, n => if n < 10 then [48 + (n : Int)] else dgs f (n / 10) ++ [48 + ((n % 10 : Nat) : Int)]
def dg (n : Nat) : List Int := dgs (n + 1) n
theorem dgs_fuel : ∀ (f g n : Nat), n < f → n < g → dgs f n = dgs g n := by
  intro f
  induction f with
  | zero => intro g n h _; omega
  | succ f ih =>
    intro g n h1 h2
    cases g with
    | zero => omega
    | succ g =>
      unfold dgs
      by_cases h : n < 10
      · rw [if_pos h, if_pos h]
      · rw [if_neg h, if_neg h, ih g (n / 10) (by omega) (by omega)]
theorem dg_lt {n : Nat} (h : n < 10) : dg n = [48 + (n : Int)] := by unfold dg dgs; rw [if_pos h]
theorem dg_ge {n : Nat} (h : ¬ n < 10) : dg n = dg (n / 10) ++ [48 + ((n % 10 : Nat) : Int)] := by
  show dgs (n + 1) n = dgs (n / 10 + 1) (n / 10) ++ _
  rw [dgs, if_neg h, dgs_fuel n (n / 10 + 1) (n / 10) (by omega) (by omega)]
theorem dg_chr : ∀ (n : Nat), ∀ c ∈ dg n, 48 ≤ c ∧ c < 58 := by
  intro n
  induction n using Nat.strongRecOn with
  | ind n ih =>
    intro c hc
    by_cases h : n < 10
    · rw [dg_lt h] at hc
      have := List.mem_singleton.mp hc
      omega
    · rw [dg_ge h] at hc
      rcases List.mem_append.mp hc with h1 | h1
      · exact ih (n / 10) (by omega) c h1
      · have := List.mem_singleton.mp h1
        omega
theorem dg_len : ∀ (k n : Nat), n < 10 ^ (k + 1) → (k = 0 ∨ 10 ^ k ≤ n) → (dg n).length = k + 1 := by
  intro k
  induction k with
  | zero => intro n h _; rw [dg_lt (by simpa using h)]; rfl
  | succ k ih =>
    intro n h1 h2
    have h3 : 10 ^ (k + 1) ≤ n := by rcases h2 with h2 | h2; · omega
                                     · exact h2
    have e1 : 10 ^ (k + 1) = 10 ^ k * 10 := Nat.pow_succ ..
    have e2 : 10 ^ (k + 1 + 1) = 10 ^ (k + 1) * 10 := Nat.pow_succ ..
    have hp : 0 < 10 ^ k := Nat.pow_pos (by decide)
    rw [dg_ge (by omega), List.length_append, ih (n / 10) (by omega) (by right; omega)]
    rfl
theorem dg_pos (n : Nat) : 1 ≤ (dg n).length := by
  by_cases h : n < 10
  · rw [dg_lt h]; simp
  · rw [dg_ge h, List.length_append]; simp
theorem dg_len10 {n : Nat} (h : n < 10000000000) : (dg n).length ≤ 10 := by
  have aux : ∀ (k n : Nat), n < 10 ^ (k + 1) → (dg n).length ≤ k + 1 := by
    intro k
    induction k with
    | zero => intro n h; rw [dg_lt (by simpa using h)]; exact Nat.le_refl _
    | succ k ih =>
      intro n h1
      by_cases h2 : n < 10
      · rw [dg_lt h2]; simp
      · have e2 : 10 ^ (k + 1 + 1) = 10 ^ (k + 1) * 10 := Nat.pow_succ ..
        have := ih (n / 10) (by omega)
        rw [dg_ge h2, List.length_append]
        simp
        omega
  exact aux 9 n h
/-- the bytes are letters of ASCII -/
def asc (t : List Int) : Prop := ∀ c ∈ t, 0 ≤ c ∧ c < 128
theorem asc_dg (n : Nat) : asc (dg n) := fun c h => by have := dg_chr n c h; omega
theorem asc_app {s t : List Int} (hs : asc s) (ht : asc t) : asc (s ++ t) := fun c h => (List.mem_append.mp h).elim (hs c) (ht c)
/-- the builder holds t -/
def BI (τ : Sm) (t : List Int) : Prop := τ 390 1 = 0 ∧ τ 390 3 = (t.length : Int) ∧ (t.length : Int) ≤ τ 390 9 ∧ 0 ≤ τ 390 9 ∧ τ 390 9 ≤ 202 ∧ (∀ j, 0 ≤ τ 391 j ∧ τ 391 j < 128) ∧ ∀ j, j < t.length → τ 391 j = t.getD j 0
def offB (σ τ : Sm) : Prop := ∀ r, r ≠ 390 → r ≠ 391 → τ r = σ r
theorem offB.refl (σ : Sm) : offB σ σ := fun _ _ _ => rfl
theorem offB.trans {σ τ υ : Sm} (h : offB σ τ) (h2 : offB τ υ) : offB σ υ := fun r a b => (h2 r a b).trans (h r a b)
def Bd (σ : Sm) (t : List Int) (τ : Sm) : Prop := offB σ τ ∧ BI τ t
/-- room for q bytes -/
def En (σ : Sm) (q : Int) (τ : Sm) : Prop := offB σ τ ∧ (τ 390 1 = σ 390 1 ∧ τ 390 2 = σ 390 2 ∧ τ 390 3 = σ 390 3) ∧ (q ≤ τ 390 9 ∧ σ 390 9 ≤ τ 390 9 ∧ τ 390 9 ≤ 202) ∧ (∀ j, 0 ≤ τ 391 j ∧ τ 391 j < 128) ∧ ∀ j : Nat, (j : Int) < σ 390 9 → τ 391 j = σ 391 j
theorem getD_app_lt {s t : List Int} {j : Nat} (h : j < s.length) : (s ++ t).getD j 0 = s.getD j 0 := by
  simp [List.getD_eq_getElem?_getD, List.getElem?_append_left h]
theorem getD_app_ge {s t : List Int} {j : Nat} (h : s.length ≤ j) : (s ++ t).getD j 0 = t.getD (j - s.length) 0 := by
  simp [List.getD_eq_getElem?_getD, List.getElem?_append_right h]
def ZD (Z : vZ) (E : Nat → Nat → Nat) : Prop := ∀ (A : Nat → Prop) (U : State) (H : Heap), Z A U H → (va_Z "java/lang/Integer" "DigitOnes" "[B" (.ref (E 6 0)) A U H ∧ va_T .byte (E 6 0) 100 (fun j => vi (48 + ((j % 10 : Nat) : Int))) A U H) ∧ (va_Z "java/lang/Integer" "DigitTens" "[B" (.ref (E 6 1)) A U H ∧ va_T .byte (E 6 1) 100 (fun j => vi (48 + ((j / 10 : Nat) : Int))) A U H)
/-- the builder's class selects the private methods of the class above it -/
def ZP (Z : vZ) : Prop := ∀ (A : Nat → Prop) (U : State) (H : Heap), Z A U H → va_Nw (Cond.selects RJ4 yJ5_ensureCapacityInternal_d00df yJ5_ensureCapacityInternal_d00df) U ∧ va_Nw (Cond.selects RJ4 yJ5_newCapacity_0f7a4 yJ5_newCapacity_0f7a4) U
theorem sel_priv {y z : MethodName} {s : State} {args : Array Value} {C : String} (hy : y.cls ≠ "java/lang/invoke/MethodHandle" ∧ y.cls ≠ "java/lang/invoke/VarHandle") (hz : z.cls = y.cls) (hsz : (Cond.selects C z z).before args s = true) (hpriv : (Cond.privateMethod y).before args s = true) (hinst : (Cond.instanceMethod y).before args s = true) : (Cond.selects C y y).before args s = true := by
  obtain ⟨c, r, m, q1, q2, q3, q4, kP, hkP, hkPi⟩ := Cond.selects_spec hsz
  obtain ⟨mk, methM, hnamed, hmethM, -, -⟩ := Cond.instanceMethod_spec hinst
  have hfound : s.methodFound? y.cls y.name y.desc = some mk := State.methodFound?_of_named hnamed hy
  have hcls : mk.cls = m.cls := by
    have h1 := findClass_of_methodNamed hnamed
    have h2 := findClass_of_methodNamed q3
    rw [hz] at h2
    exact Option.some.inj (h1.symm.trans h2)
  have hsel : selectMethod {} s.vm c mk = .method mk := selectMethod_private hmethM (Cond.privateMethod_at hpriv mk methM hnamed hmethM)
  simp only [Cond.before, Cond.holds, Cond.value, q1, hfound, hnamed, hsel, hcls, hkP]
  simp; exact hkPi
section BQ
variable {O : Type} {Z : vZ} {X : vjX} {kp : O → Prop} {cc : ByteArray} {own : String} {ret : Option FieldType} {Rm : Room} {a b pc : Nat} {L L' : List (Nat × Value)} {st : List Value} {σ : Sm} {cy : Nat → ClassId} {ad : Nat → Nat} {E : Nat → Nat → Nat} {G : va_G} {A : Nat → Prop} {nL : Nat} {Q : State → Prop} {rr : Option O}
variable {l : Launch} {y : MethodName} {ccy : ByteArray} {maxL : Nat} {rety : Option FieldType} {rm : Room} {idx n : Nat} {av : List Value} {R : Sm → Prop}
/-- a method of the builder that gives nothing back -/
def CbV (Z : vZ) (l : Launch) (y : MethodName) (cc : ByteArray) (maxL : Nat) (rm : Room) (cy : Nat → ClassId) (ad : Nat → Nat) (E : Nat → Nat → Nat) (G : va_G) (av : List Value) (σ : Sm) (R : Sm → Prop) : Prop :=
  ∀ sz : Nat, Met l y (Cond.code y cc maxL none :: lwG) rm (va_Pc av (preZ Z (wlc cy ad E) G (tyc cy) sz σ)) (va_Qv (fun (τ : Sm) => R τ ∧ wfc τ) (fun τ t => va_P G vwCl (wlc cy ad E τ) t.heap ∧ va_D (va_A (wlc cy ad E σ) sz) (wlc cy ad E τ)) (va_A (wlc cy ad E σ) sz)) rm.cells rm.slots (va_A (wlc cy ad E σ) sz)
/-- one that gives the builder back -/
def CbQ (Z : vZ) (l : Launch) (y : MethodName) (cc : ByteArray) (maxL : Nat) (ret : Option FieldType) (rm : Room) (cy : Nat → ClassId) (ad : Nat → Nat) (E : Nat → Nat → Nat) (G : va_G) (av : List Value) (σ : Sm) (R : Sm → Prop) : Prop :=
  ∀ sz : Nat, Met l y (Cond.code y cc maxL ret :: lwG) rm (va_Pc av (preZ Z (wlc cy ad E) G (tyc cy) sz σ)) (va_Qq (fun (r : Option Nat) (τ : Sm) => r = some (ad 390) ∧ R τ ∧ wfc τ) (fun τ t => va_P G vwCl (wlc cy ad E τ) t.heap ∧ va_D (va_A (wlc cy ad E σ) sz) (wlc cy ad E τ)) (va_A (wlc cy ad E σ) sz)) rm.cells rm.slots (va_A (wlc cy ad E σ) sz)
def EndBV (X : vjX) (Y : vjY Sm) (cc : ByteArray) (Rm : Room) (R : Sm → Prop) : Prop := ∀ (pc : Nat) (L : List (Nat × Value)) (τ : Sm), decode cc pc = .ok (.return_, 1) → R τ → J X Y Rm.cells Rm.slots pc L [] τ
def EndBQ (X : vjX) (Y : vjY Sm) (cc : ByteArray) (Rm : Room) (q : Nat) (R : Sm → Prop) : Prop := ∀ (pc : Nat) (L : List (Nat × Value)) (τ : Sm), decode cc pc = .ok (.areturn, 1) → R τ → J X Y Rm.cells Rm.slots pc L [.ref q] τ
theorem cbV_of (hy : plainFor y = true) (hf : (lg_sl av).length ≤ maxL) (hw : wfc σ)
    (body : ∀ (X : vjX) (A : Nat → Prop) (Q : State → Prop), Zx Z X (Yc cy ad E G A maxL Q) → X.2.1 = l → Cx X (Yc cy ad E G A maxL Q) cc y.cls none rm (tyc cy) → T X (Yc cy ad E G A maxL Q) (fun _ : Unit => EndBV X (Yc cy ad E G A maxL Q) cc rm R) 0 0 0 (lv_args 0 av) [] σ (some ())) :
    CbV Z l y cc maxL rm cy ad E G av σ R := by
  intro sz
  refine va_MetF (cc := cc) (maxL := maxL) (ret := none) hy rfl ?_
  intro p e s m args below meth c s₁ B hml hv
  obtain ⟨rfl, ⟨hsz, hP, hK, hD0⟩, hZ⟩ := hv
  have hts := atoms_spec (ws := Cond.code y cc maxL none :: lwG) B.pre
  subst hsz
  have hD := hD0.self (sz := s.heap.size)
  have hl := lv_entry av (n := maxL) hf
  rw [lg_entry_eq]
  refine body (p, l, e, (headSpec (Cond.code y cc maxL none :: lwG) rm).room, s, m, av.toArray, below, meth, c) (va_A (wlc cy ad E σ) s.heap.size) _ hZ rfl ⟨B.exec, B.bytes, hml, findClass_of_methodNamed B.named, fun w h => hts w (List.mem_cons_of_mem _ h), hK, fun q h => Or.inr h, B.notSynchronized, rfl, B.returns⟩ () rfl ?_ s.heap [] _ hP hD va_S.rf hw hl
  intro pc L τ d hR H locs ls hP hD hS hw hl
  exact W.vret B.exec B.bytes B.returns (fun t ht hW => ⟨⟨τ, rfl, ⟨hR, hw⟩, by rw [ht]; exact hP, hD⟩, hS.F ht⟩) hS.2.2 d B.notSynchronized
theorem cbQ_of {ty : String} (hy : plainFor y = true) (hf : (lg_sl av).length ≤ maxL) (hw : wfc σ)
    (body : ∀ (X : vjX) (A : Nat → Prop) (Q : State → Prop), Zx Z X (Yc cy ad E G A maxL Q) → X.2.1 = l → Cx X (Yc cy ad E G A maxL Q) cc y.cls (some (.object ty)) rm (tyc cy) → T X (Yc cy ad E G A maxL Q) (fun _ : Unit => EndBQ X (Yc cy ad E G A maxL Q) cc rm (ad 390) R) 0 0 0 (lv_args 0 av) [] σ (some ())) :
    CbQ Z l y cc maxL (some (.object ty)) rm cy ad E G av σ R := by
  intro sz
  refine va_MetF (cc := cc) (maxL := maxL) (ret := some (.object ty)) hy rfl ?_
  intro p e s m args below meth c s₁ B hml hv
  obtain ⟨rfl, ⟨hsz, hP, hK, hD0⟩, hZ⟩ := hv
  have hts := atoms_spec (ws := Cond.code y cc maxL (some (.object ty)) :: lwG) B.pre
  subst hsz
  have hD := hD0.self (sz := s.heap.size)
  have hl := lv_entry av (n := maxL) hf
  rw [lg_entry_eq]
  refine body (p, l, e, (headSpec (Cond.code y cc maxL (some (.object ty)) :: lwG) rm).room, s, m, av.toArray, below, meth, c) (va_A (wlc cy ad E σ) s.heap.size) _ hZ rfl ⟨B.exec, B.bytes, hml, findClass_of_methodNamed B.named, fun w h => hts w (List.mem_cons_of_mem _ h), hK, fun q h => Or.inr h, B.notSynchronized, rfl, B.returns⟩ () rfl ?_ s.heap [] _ hP hD va_S.rf hw hl
  intro pc L τ d hR H locs ls hP hD hS hw hl
  exact W.aret (v := .ref (ad 390)) B.exec B.bytes B.returns (Or.inl ⟨_, rfl⟩) (Or.inr ⟨_, rfl⟩) (fun t ht hW => ⟨⟨some (ad 390), τ, rfl, ⟨rfl, hR, hw⟩, by rw [ht]; exact hP, hD⟩, hS.F ht⟩) hS.2.2 d B.notSynchronized
theorem T_bvret (w : O) (hk : kp w → EndBV X (Yc cy ad E G A nL Q) cc Rm R) (hr : R σ) (hc : a ≤ Rm.cells ∧ b ≤ Rm.slots) (d : decode cc pc = .ok (.return_, 1)) : T X (Yc cy ad E G A nL Q) kp a b pc L [] σ (some w) := fun o h hko => by
  cases h
  exact fun H locs ls hP hD hS hw hl => W.widen hc.1 hc.2 (hk hko pc L σ d hr H locs ls hP hD hS hw hl)
theorem T_bqret (w : O) (hk : kp w → EndBQ X (Yc cy ad E G A nL Q) cc Rm (ad 390) R) (hr : R σ) (hc : a ≤ Rm.cells ∧ b ≤ Rm.slots) (d : decode cc pc = .ok (.areturn, 1)) : T X (Yc cy ad E G A nL Q) kp a b pc L [.ref (ad 390)] σ (some w) := fun o h hko => by
  cases h
  exact fun H locs ls hP hD hS hw hl => W.widen hc.1 hc.2 (hk hko pc L σ d hr H locs ls hP hD hS hw hl)
/-- what a method of the builder owes by words -/
def cmB (y : MethodName) (cc : ByteArray) (maxL : Nat) (ret : Option FieldType) (n : Nat) : Prop := Cond.code y cc maxL ret ∈ lwG ∧ Cond.initialized y.cls ∈ lwG ∧ (y.cls ≠ "java/lang/invoke/MethodHandle" ∧ y.cls ≠ "java/lang/invoke/VarHandle" ∧ (parseMethodDescriptor y.desc).map (fun d => d.parameters.length) = some n) ∧ Cond.instanceMethod y ∈ lwG
/-- its receiver -/
theorem rcB (C : Cx X (Yc cy ad E G A nL Q) cc own ret Rm (tyc cy)) {H : Heap} (hP : va_P G vwCl (wlc cy ad E σ) H) : ∃ cell : Cell, H[ad 390]? = some cell ∧ cell.vm.isStatics = false ∧ X.2.2.2.2.1.vm.findClass RJ4 = some cell.cls := va_recv (ci := 1) (q0 := 390) C.2.2.2.2.2.1 hP rfl wlc_390
theorem atB (C : Cx X (Yc cy ad E G A nL Q) cc own ret Rm (tyc cy)) : ∃ cC, ClassAt X.2.2.2.2.1 RJ4 cC := ⟨_, (C.2.2.2.2.2.1.1 1 _ rfl).2⟩
/-- how a call of a builder's method begins -/
abbrev RunB (X : vjX) (cc : ByteArray) (rm : Room) (q pc : Nat) (As rest : List Value) (st : List Value) (a b : Nat) (y : MethodName) (ccy : ByteArray) (maxL : Nat) (rety : Option FieldType) (n nL : Nat) (A : Nat → Prop) : Prop :=
  ∀ (Pc : Array Value → State → Prop) (Qc : Array Value → State → Outcome → State → Prop) (free : Addr → Prop) (H : Heap) (locs : List Loc) (ls : Array Slot), ls.size = nL → Met X.2.1 y (Cond.code y ccy maxL rety :: lwG) rm Pc Qc rm.cells rm.slots free → PreV X.2.2.2.2.1 H RJ4 q Pc As →
    va_Run X.1 X.2.1 X.2.2.1 X.2.2.2.1 X.2.2.2.2.1 X.2.2.2.2.2.1 X.2.2.2.2.2.2.1 X.2.2.2.2.2.2.2.1 X.2.2.2.2.2.2.2.2.1 X.2.2.2.2.2.2.2.2.2 H locs a b rm.cells rm.slots (F0 X.2.2.2.2.2.1 pc ls st) rest (Qc (Value.ref q :: As).toArray) free
theorem runBV (C : Cx X (Yc cy ad E G A nL Q) cc own ret Rm (tyc cy)) (As rest : List Value) {q : Nat} (hlink : Cond.methodLink own idx y ∈ lwG) (hm : cmB y ccy maxL rety n) (hsel : (Cond.selects RJ4 y y).before X.2.2.2.2.2.2.1 X.2.2.2.2.1 = true) (hn : As.length = n) (hst : st = As.reverse ++ .ref q :: rest) (hcat : (rest.map fun v => v.category).sum ≤ 8) (hR : rmFit rm Rm maxL a b) (d : decode cc pc = .ok (.invokevirtual idx, 3)) : RunB X cc rm q pc As rest st a b y ccy maxL rety n nL A := by
  intro Pc Qc free H locs ls hls hM hp
  obtain ⟨hx, hb, hml, hown, hts, hK, hA, -, hRm, -⟩ := C
  obtain ⟨m1, m2, m3, m4⟩ := hm
  obtain ⟨⟨r1, r2⟩, r3, r4⟩ := hR
  subst hst
  exact va_runV (As := As) (rest := rest) (C := RJ4) ⟨hx, hb, hml, hown, hts⟩ hM ⟨callB_of n hts (lwG_good m1) rfl rfl rfl (hts _ m2) (hts _ hlink) m3 (by rw [hRm]; exact ⟨r1, r2⟩), hts _ m4, hsel⟩ hp rfl hn hls rfl (lv_room hcat) d (by rw [hRm]; exact ⟨r3, r4⟩)
theorem runBS (C : Cx X (Yc cy ad E G A nL Q) cc own ret Rm (tyc cy)) (As rest : List Value) {q : Nat} (hlink : Cond.methodLink own idx y ∈ lwG) (hm : cmB y ccy maxL rety n) (hsame : Cond.sameMethod y.cls y.cls y.name y.desc ∈ lwG) (hsup : Cond.superclass own y.cls ∈ lwG) (hno : y.name ≠ "<init>") (hn : As.length = n) (hst : st = As.reverse ++ .ref q :: rest) (hcat : (rest.map fun v => v.category).sum ≤ 8) (hR : rmFit rm Rm maxL a b) (d : decode cc pc = .ok (.invokespecial idx, 3)) : RunB X cc rm q pc As rest st a b y ccy maxL rety n nL A := by
  intro Pc Qc free H locs ls hls hM hp
  obtain ⟨cC, hat⟩ := atB C
  obtain ⟨hx, hb, hml, hown, hts, hK, hA, -, hRm, -⟩ := C
  obtain ⟨m1, m2, m3, m4⟩ := hm
  obtain ⟨⟨r1, r2⟩, r3, r4⟩ := hR
  subst hst
  refine va_runSU (As := As) (rest := rest) hat ⟨hx, hb, hml, hown, hts⟩ hM (n := n) ⟨⟨rfl, rfl, by rw [hRm]; exact r1, by rw [hRm]; exact r2, pay_in hts (lwG_good m1), List.mem_cons_self⟩, hts _ hlink, hts _ hsame, hts _ hsup, hts _ m4, hts _ m2, hts _ m1, hno, fun sig h => ?_⟩ hp rfl hn hls rfl (lv_room hcat) d (by rw [hRm]; exact ⟨r3, r4⟩)
  have h2 := m3.2.2
  rw [h] at h2
  exact (Option.some.inj h2).symm
theorem T_bV (zk : Zok Z) (hZ : Zx Z X (Yc cy ad E G A nL Q)) (C : Cx X (Yc cy ad E G A nL Q) cc own ret Rm (tyc cy)) (As rest : List Value) (hrun : RunB X cc rm (ad 390) pc As rest st a b y ccy maxL none n nL A) (ct : wfc σ → CbV Z X.2.1 y ccy maxL rm cy ad E G (.ref (ad 390) :: As) σ R) {a' b' : Nat} (hab : a + rm.cells = a' ∧ b + rm.slots = b') (K : ∀ τ, R τ → T X (Yc cy ad E G A nL Q) kp a' b' (pc + 3) L rest τ rr) : T X (Yc cy ad E G A nL Q) kp a b pc L st σ rr := fun w h hk => by
  intro H locs ls hP hD hS hw hl
  have hK := C.2.2.2.2.2.1
  have hF := callFree C.2.2.2.2.2.2.1 hD hS
  obtain ⟨rfl, rfl⟩ := hab
  refine va_callv (hrun _ _ _ H locs ls hl.1 (ct hw H.size) ⟨preZ_blind zk, rcB C hP, fun U hU hW => ⟨rfl, ⟨by rw [hU], by rw [hU]; exact hP, va_K.moved hW.alike hK, hD.weaken (fun _ _ _ _ => trivial)⟩, by rw [hU]; exact zk.2.2 _ _ _ _ (zk.1 _ _ _ _ hW (zk.2.1 _ _ _ _ hZ hS.2.1)) hF⟩⟩) hS (fun q _ h => hF q h) hF (fun u t H1 locs1 ht hvm hwf hB hz hk9 hS1 => ?_)
  obtain ⟨hP1, hD1⟩ := hB
  rw [ht] at hP1
  exact K u hwf.1 w h hk H1 locs1 ls hP1 (hD1.weaken (fun _ q _ h => hF q.1 h)) hS1 hwf.2 hl
theorem T_bQ (zk : Zok Z) (hZ : Zx Z X (Yc cy ad E G A nL Q)) (C : Cx X (Yc cy ad E G A nL Q) cc own ret Rm (tyc cy)) (As rest : List Value) (hrun : RunB X cc rm (ad 390) pc As rest st a b y ccy maxL rety n nL A) (ct : wfc σ → CbQ Z X.2.1 y ccy maxL rety rm cy ad E G (.ref (ad 390) :: As) σ R) {a' b' : Nat} (hab : a + rm.cells = a' ∧ b + rm.slots = b') (K : ∀ τ, R τ → T X (Yc cy ad E G A nL Q) kp a' b' (pc + 3) L (.ref (ad 390) :: rest) τ rr) : T X (Yc cy ad E G A nL Q) kp a b pc L st σ rr := fun w h hk => by
  intro H locs ls hP hD hS hw hl
  have hK := C.2.2.2.2.2.1
  have hF := callFree C.2.2.2.2.2.2.1 hD hS
  obtain ⟨rfl, rfl⟩ := hab
  refine va_callq (hrun _ _ _ H locs ls hl.1 (ct hw H.size) ⟨preZ_blind zk, rcB C hP, fun U hU hW => ⟨rfl, ⟨by rw [hU], by rw [hU]; exact hP, va_K.moved hW.alike hK, hD.weaken (fun _ _ _ _ => trivial)⟩, by rw [hU]; exact zk.2.2 _ _ _ _ (zk.1 _ _ _ _ hW (zk.2.1 _ _ _ _ hZ hS.2.1)) hF⟩⟩) hS (fun q _ h => hF q h) hF (fun r u t H1 locs1 ht hvm hwf hB hz hk9 hS1 => ?_)
  obtain ⟨rfl, hR1, hw1⟩ := hwf
  obtain ⟨hP1, hD1⟩ := hB
  rw [ht] at hP1
  exact K u hR1 w h hk H1 locs1 ls hP1 (hD1.weaken (fun _ q _ h => hF q.1 h)) hS1 hw1 hl
theorem T_bI (zk : Zok Z) (hZ : Zx Z X (Yc cy ad E G A nL Q)) (C : Cx X (Yc cy ad E G A nL Q) cc own ret Rm (tyc cy)) (As rest : List Value) {v : Int} {σ' : Sm} (hrun : RunB X cc rm (ad 390) pc As rest st a b y ccy maxL rety n nL A) (ct : wfc σ → CzI Z X.2.1 y ccy maxL rety rm (wlc cy ad E) wfc G (tyc cy) (.ref (ad 390) :: As) σ σ' v) {a' b' : Nat} (hab : a + rm.cells = a' ∧ b + rm.slots = b') (K : rng v ∧ nar rety v → T X (Yc cy ad E G A nL Q) kp a' b' (pc + 3) L (vi v :: rest) σ' rr) : T X (Yc cy ad E G A nL Q) kp a b pc L st σ rr := fun w h hk => by
  intro H locs ls hP hD hS hw hl
  have hK := C.2.2.2.2.2.1
  have hF := callFree C.2.2.2.2.2.2.1 hD hS
  obtain ⟨rfl, rfl⟩ := hab
  refine va_calli (hrun _ _ _ H locs ls hl.1 (ct hw H.size) ⟨preZ_blind zk, rcB C hP, fun U hU hW => ⟨rfl, ⟨by rw [hU], by rw [hU]; exact hP, va_K.moved hW.alike hK, hD.weaken (fun _ _ _ _ => trivial)⟩, by rw [hU]; exact zk.2.2 _ _ _ _ (zk.1 _ _ _ _ hW (zk.2.1 _ _ _ _ hZ hS.2.1)) hF⟩⟩) hS (fun q _ h => hF q h) hF (fun r u t H1 locs1 ht hvm hwf hB hz hk9 hS1 => ?_)
  obtain ⟨rfl, hr, hw1⟩ := hwf
  obtain ⟨hP1, hD1⟩ := hB
  rw [ht] at hP1
  exact K hr w h hk H1 locs1 ls hP1 (hD1.weaken (fun _ q _ h => hF q.1 h)) hS1 hw1 hl
end BQ
section BS
variable {S O : Type} {Z : vZ} {E : Nat → Nat → Nat} {X : vjX} {Y : vjY S} {kp : O → Prop} {cc : ByteArray} {own : String} {ret : Option FieldType} {Rm : Room} {tys : List (ClassId × FieldType)} {a b pc : Nat} {L L' : List (Nat × Value)} {st : List Value} {σ : S} {r : Option O} {idx : Nat}
theorem T_ishl0 (C : Cx X Y cc own ret Rm tys) {x : Int} (d : decode cc pc = .ok (.ishl, 1)) (K : T X Y kp a b (pc + 1) L (vi x :: st) σ r) : T X Y kp a b pc L (vi 0 :: vi x :: st) σ r := by
  have h := T_ishl (X := X) (Y := Y) (kp := kp) (a := a) (b := b) (L := L) (st := st) (σ := σ) (r := r) C (x := x) (y := 0) (by decide) d
  have e : x * 2 ^ (0 : Int).toNat = x := by simp
  rw [e] at h
  exact h K
theorem T_ishr0 (C : Cx X Y cc own ret Rm tys) {x : Int} (hx : rng x) (h0 : 0 ≤ x) (d : decode cc pc = .ok (.ishr, 1)) (K : T X Y kp a b (pc + 1) L (vi x :: st) σ r) : T X Y kp a b pc L (vi 0 :: vi x :: st) σ r := by
  have h := T_ishr (X := X) (Y := Y) (kp := kp) (a := a) (b := b) (L := L) (st := st) (σ := σ) (r := r) C (x := x) (y := 0) hx h0 (by decide) d
  have e : x / 2 ^ (0 : Int).toNat = x := by simp
  rw [e] at h
  exact h K
theorem T_i2b (C : Cx X Y cc own ret Rm tys) {x : Int} (hx : 0 ≤ x ∧ x < 128) (d : decode cc pc = .ok (.i2b, 1)) (K : T X Y kp a b (pc + 1) L (vi x :: st) σ r) : T X Y kp a b pc L (vi x :: st) σ r := fun o h hk H locs ls hP hD hS hw hl =>
  lv_i2b C.1 C.2.1 d (v := Int32.ofInt x) (byt_ok hx) (K o h hk H locs ls hP hD hS hw hl)
theorem T_gdO (zd : ZD Z E) (hZ : Zx Z X Y) (C : Cx X Y cc own ret Rm tys) (hlink : Cond.fieldLink own idx "java/lang/Integer" "DigitOnes" "[B" ∈ lwG) (d : decode cc pc = .ok (.getstatic idx, 3)) (K : T X Y kp a b (pc + 3) L (.ref (E 6 0) :: st) σ r) : T X Y kp a b pc L st σ r := fun o h hk H locs ls hP hD hS hw hl =>
  va_gets C.1 C.2.1 (zd _ _ _ hZ).1.1 hS C.2.2.2.1 (C.2.2.2.2.1 _ hlink) (fun _ h9 => h9) d (K o h hk H locs ls hP hD hS hw hl)
theorem T_gdT (zd : ZD Z E) (hZ : Zx Z X Y) (C : Cx X Y cc own ret Rm tys) (hlink : Cond.fieldLink own idx "java/lang/Integer" "DigitTens" "[B" ∈ lwG) (d : decode cc pc = .ok (.getstatic idx, 3)) (K : T X Y kp a b (pc + 3) L (.ref (E 6 1) :: st) σ r) : T X Y kp a b pc L st σ r := fun o h hk H locs ls hP hD hS hw hl =>
  va_gets C.1 C.2.1 (zd _ _ _ hZ).2.1 hS C.2.2.2.1 (C.2.2.2.2.1 _ hlink) (fun _ h9 => h9) d (K o h hk H locs ls hP hD hS hw hl)
theorem T_dOld (zd : ZD Z E) (hZ : Zx Z X Y) (C : Cx X Y cc own ret Rm tys) {z : Int} (v : Int) (hz : 0 ≤ z ∧ z < 100) (hv : v = 48 + z % 10) (d : decode cc pc = .ok (.baload, 1)) (K : T X Y kp a b (pc + 1) L (vi v :: st) σ r) : T X Y kp a b pc L (vi z :: .ref (E 6 0) :: st) σ r := fun o h hk H locs ls hP hD hS hw hl =>
  va_tb (v := vi v) C.1 C.2.1 (zd _ _ _ hZ).1.2 hS (ix_in (n := 100) hz (by decide)) (by rw [ix_nat (n := 100) hz (by decide)]; show vi _ = vi _; congr 2; omega) d (K o h hk H locs ls hP hD hS hw hl)
theorem T_dTld (zd : ZD Z E) (hZ : Zx Z X Y) (C : Cx X Y cc own ret Rm tys) {z : Int} (v : Int) (hz : 0 ≤ z ∧ z < 100) (hv : v = 48 + z / 10) (d : decode cc pc = .ok (.baload, 1)) (K : T X Y kp a b (pc + 1) L (vi v :: st) σ r) : T X Y kp a b pc L (vi z :: .ref (E 6 1) :: st) σ r := fun o h hk H locs ls hP hD hS hw hl =>
  va_tb (v := vi v) C.1 C.2.1 (zd _ _ _ hZ).2.2 hS (ix_in (n := 100) hz (by decide)) (by rw [ix_nat (n := 100) hz (by decide)]; show vi _ = vi _; congr 2; omega) d (K o h hk H locs ls hP hD hS hw hl)
/-- a division of a number that isn't above 0 -/
theorem T_idivN (C : Cx X Y cc own ret Rm tys) {w y : Int} (hx : rng (-w)) (h0 : 0 ≤ w) (hy : rng y) (h : 0 < y) (d : decode cc pc = .ok (.idiv, 1)) (K : T X Y kp a b (pc + 1) L (vi (-(w / y)) :: st) σ r) : T X Y kp a b pc L (vi y :: vi (-w) :: st) σ r := fun o h9 hk H locs ls hP hD hS hw hl => by
  refine lv_idiv C.1 C.2.1 d (dv_ne hy h) ?_
  have e : Int32.ofInt (-w) / Int32.ofInt y = Int32.ofInt (-(w / y)) := by
    rw [← Int.tdiv_eq_ediv_of_nonneg h0, ← Int.neg_tdiv]
    exact (Int32.ofInt_tdiv (by show (-2147483648 : Int) ≤ -w; omega) (by show -w ≤ (2147483647 : Int); omega) (by show (-2147483648 : Int) ≤ y; omega) (by show y ≤ (2147483647 : Int); omega)).symm
  rw [e]
  exact K o h9 hk H locs ls hP hD hS hw hl
end BS
/-! a new array of bytes, beside the class's world -/
abbrev SB3 : Type := Sm × Nat × Nat × (Nat → Int)
def wl3 (cy : Nat → ClassId) (ad : Nat → Nat) (E : Nat → Nat → Nat) (u : SB3) : va_W := wlc cy ad E u.1 ++ [(u.2.1, .inl (cy 7, u.2.2.1, .inl (fun j => Int32.ofInt (u.2.2.2 j))))]
abbrev Y3 (cy : Nat → ClassId) (ad : Nat → Nat) (E : Nat → Nat → Nat) (G : va_G) (A : Nat → Prop) (nL : Nat) (Q : State → Prop) : vjY SB3 := (wl3 cy ad E, fun u => wfc u.1, G, A, nL, Q)
def nb (σ : Sm) (q n : Nat) (g : Nat → Int) : Sm := fun r i => if r = 390 then (if i = 0 then (q : Int) else if i = 9 then (n : Int) else σ 390 i) else if r = 391 then g i else σ r i
section BN
variable {O : Type} {Z : vZ} {X : vjX} {kp : O → Prop} {cc : ByteArray} {own : String} {ret : Option FieldType} {Rm : Room} {a b pc : Nat} {L L' : List (Nat × Value)} {st : List Value} {σ : Sm} {cy : Nat → ClassId} {ad : Nat → Nat} {E : Nat → Nat → Nat} {G : va_G} {A : Nat → Prop} {nL : Nat} {Q : State → Prop} {rr : Option O}
variable {l : Launch} {y : MethodName} {ccy : ByteArray} {maxL : Nat} {rety : Option FieldType} {rm : Room} {idx n : Nat} {av : List Value} {q k : Nat} {g : Nat → Int}
theorem C3 {tys : List (ClassId × FieldType)} (C : Cx X (Yc cy ad E G A nL Q) cc own ret Rm tys) : Cx X (Y3 cy ad E G A nL Q) cc own ret Rm tys := C
theorem T_newb (C : Cx X (Yc cy ad E G A nL Q) cc own ret Rm (tyc cy)) {z : Int} (k : Nat) (hk : z = (k : Int)) (hb : k ≤ 1000) (harr : Cond.arrayClass .byte ∈ lwG) (hc : a + 1 ≤ Rm.cells ∧ b + k ≤ Rm.slots) (d : decode cc pc = .ok (.newarray .byte, 2)) (K : ∀ q : Nat, T X (Y3 cy ad E G A nL Q) kp (a + 1) (b + k) (pc + 2) L (.ref q :: st) (σ, q, k, fun _ => 0) rr) : T X (Yc cy ad E G A nL Q) kp a b pc L (vi z :: st) σ rr := fun o h hk2 H locs ls hP hD hS hw hl => by
  have hz : rng z := by unfold rng; omega
  have hRm := C.2.2.2.2.2.2.2.2.1
  refine va_newa (atype := .byte) C.1 C.2.1 (C.2.2.2.2.1 _ harr) rfl C.2.2.2.2.2.1 hP hD hS C.2.2.2.2.2.2.1 (N' := k) (a0 := (k, .inl (fun _ => 0))) (fun cA => rfl) ?_ ?_ ?_ (by rw [hRm]; exact hc.1) (by rw [hRm]; exact hc.2) d (fun q cA H1 hK1 hP1 hD1 hS1 => ?_)
  · rw [← ofI_0, rng_lt hz rng_0]; omega
  · rw [← Int32.toNat_toInt, rng_toInt hz]; omega
  · show k * 1 ≤ _; omega
  · have e : cA = cy 7 := by
      have h1 := (hK1.2 7 (cy 7, .byte) rfl).2
      have h2 := (hK1.2 8 (cA, .byte) rfl).2
      have h3 : X.2.2.2.2.1.vm.findClass ("[" ++ FieldType.byte.toString) = some (cy 7) := h1
      have h4 : X.2.2.2.2.1.vm.findClass ("[" ++ FieldType.byte.toString) = some cA := h2
      exact Option.some.inj (h4.symm.trans h3)
    subst e
    exact K q o h hk2 H1 locs ls hP1 hD1 hS1 hw hl
theorem wl3_391 {u : SB3} : (wl3 cy ad E u)[391]? = some ((u.1 390 0).toNat, .inl (cy 7, (u.1 390 9).toNat, .inl (fun j => Int32.ofInt (u.1 391 j)))) := by
  unfold wl3
  rw [List.getElem?_append_left (by rw [wlc_len]; decide), wlc_391]
theorem wl3_392 {u : SB3} : (wl3 cy ad E u)[392]? = some (u.2.1, .inl (cy 7, u.2.2.1, .inl (fun j => Int32.ofInt (u.2.2.2 j)))) := by
  unfold wl3
  rw [List.getElem?_append_right (by rw [wlc_len]; exact Nat.le_refl _), wlc_len]
  rfl
theorem wl3_s392 {u : SB3} {f : Nat → Int} : (wl3 cy ad E u).set 392 (u.2.1, .inl (cy 7, u.2.2.1, .inl (fun j => Int32.ofInt (f j)))) = wl3 cy ad E (u.1, u.2.1, u.2.2.1, f) := by
  unfold wl3
  rw [List.set_append_right _ _ (by rw [wlc_len]; exact Nat.le_refl _), wlc_len]
  rfl
theorem T_cpyb (C : Cx X (Y3 cy ad E G A nL Q) cc own ret Rm (tyc cy)) {z : Int} (k0 : Nat) (hk : z = (k0 : Int)) (h1 : (k0 : Int) ≤ σ 390 9) (h2 : k0 ≤ k) (h3 : k ≤ 1000) (hb : ∀ j, 0 ≤ σ 391 j ∧ σ 391 j < 128) (hlink : Cond.methodLink own idx arraycopyName ∈ lwG) (hnat : Cond.native arraycopyName ∈ lwG) (hstat : Cond.static arraycopyName ∈ lwG) (hini : Cond.initialized "java/lang/System" ∈ lwG) (hR : 1 ≤ Rm.frames ∧ (st.map fun v => v.category).sum + (nativeFrameWords "java/lang/System" "arraycopy" 5 + 11) ≤ Rm.locals) (d : decode cc pc = .ok (.invokestatic idx, 3)) (K : T X (Y3 cy ad E G A nL Q) kp a b (pc + 3) L st (σ, q, k, fun j => if j < k0 then σ 391 j else g j) rr) : T X (Y3 cy ad E G A nL Q) kp a b pc L (vi z :: vi 0 :: .ref q :: vi 0 :: .ref (σ 390 0).toNat :: st) (σ, q, k, g) rr := fun o h hk2 H locs ls hP hD hS hw hl => by
  have hz : rng z := by unfold rng; omega
  have hRm := C.2.2.2.2.2.2.2.2.1
  have e0 : (Int32.ofInt 0).toNatClampNeg = 0 := by rw [← Int32.toNat_toInt, rng_toInt rng_0]; rfl
  have ez : (Int32.ofInt z).toNatClampNeg = k0 := by rw [← Int32.toNat_toInt, rng_toInt hz]; omega
  have h00 : ¬ Int32.ofInt 0 < 0 := by rw [← ofI_0, rng_lt rng_0 rng_0]; omega
  refine va_copyi C.1 C.2.1 (C.2.2.1.trans hl.1.symm) C.2.2.2.1 (C.2.2.2.2.1 _ hlink) (C.2.2.2.2.1 _ hnat) (C.2.2.2.2.1 _ hstat) (C.2.2.2.2.1 _ hini) C.2.2.2.2.2.1 hP hD hS 391 392 7 7 (ty := .byte) wl3_391 wl3_392 rfl rfl rfl h00 h00 (by rw [← ofI_0, rng_lt hz rng_0]; omega) (by rw [e0, ez]; show 0 + k0 ≤ (σ 390 9).toNat; omega) (by rw [e0, ez]; show 0 + k0 ≤ k; omega) (fun i _ => ?_) (by rw [hRm]; exact hR.1) (by rw [hRm]; exact hR.2) d (fun H1 locs1 hP1 hD1 hS1 => ?_)
  · have := byt_ok (hb ((Int32.ofInt 0).toNatClampNeg + i))
    show fits .byte (.int (Int32.ofInt (σ 391 _))) = true
    have hx := hb ((Int32.ofInt 0).toNatClampNeg + i)
    generalize σ 391 ((Int32.ofInt 0).toNatClampNeg + i) = v at hx ⊢
    have aux : ∀ n : Nat, n < 128 → fits .byte (.int (Int32.ofInt (n : Int))) = true := by decide +kernel
    obtain ⟨n, rfl⟩ := Int.eq_ofNat_of_zero_le hx.1
    exact aux n (by omega)
  · rw [e0, ez] at hP1 hD1
    have ef : va_cpy (fun j => Int32.ofInt (σ 391 j)) (fun j => Int32.ofInt (g j)) 0 0 k0 = fun j => Int32.ofInt (if j < k0 then σ 391 j else g j) := by
      funext j
      unfold va_cpy
      by_cases hj : j < k0
      · simp [hj]
      · simp [hj]
    replace hP1 : va_P G vwCl (wl3 cy ad E (σ, q, k, fun j => if j < k0 then σ 391 j else g j)) H1 := by rw [← wl3_s392 (u := (σ, q, k, g)), ← ef]; exact hP1
    replace hD1 : va_D A (wl3 cy ad E (σ, q, k, fun j => if j < k0 then σ 391 j else g j)) := by rw [← wl3_s392 (u := (σ, q, k, g)), ← ef]; exact hD1
    exact K o h hk2 H1 locs1 ls hP1 hD1 hS1 hw hl
/-- a copy of the builder's bytes, k of them, as g says -/
def CbC (Z : vZ) (l : Launch) (y : MethodName) (cc : ByteArray) (maxL : Nat) (ret : Option FieldType) (rm : Room) (cy : Nat → ClassId) (ad : Nat → Nat) (E : Nat → Nat → Nat) (G : va_G) (av : List Value) (σ : Sm) (k : Nat) (g : Nat → Int) : Prop :=
  ∀ sz : Nat, Met l y (Cond.code y cc maxL ret :: lwG) rm (va_Pc av (preZ Z (wlc cy ad E) G (tyc cy) sz σ)) (va_Qq (fun (r : Option Nat) (q : Nat) => r = some q ∧ wfc σ) (fun q t => va_P G vwCl (wl3 cy ad E (σ, q, k, g)) t.heap ∧ va_D (va_A (wlc cy ad E σ) sz) (wl3 cy ad E (σ, q, k, g))) (va_A (wlc cy ad E σ) sz)) rm.cells rm.slots (va_A (wlc cy ad E σ) sz)
def EndBC (X : vjX) (Y : vjY SB3) (cc : ByteArray) (Rm : Room) (σ : Sm) (k : Nat) (g : Nat → Int) : Prop := ∀ (pc : Nat) (L : List (Nat × Value)) (q : Nat), decode cc pc = .ok (.areturn, 1) → J X Y Rm.cells Rm.slots pc L [.ref q] (σ, q, k, g)
theorem cbC_of {ty : FieldType} (hy : plainFor y = true) (hf : (lg_sl av).length ≤ maxL) (hw : wfc σ)
    (body : ∀ (X : vjX) (A : Nat → Prop) (Q : State → Prop), Zx Z X (Yc cy ad E G A maxL Q) → X.2.1 = l → Cx X (Yc cy ad E G A maxL Q) cc y.cls (some (.array ty)) rm (tyc cy) → T X (Yc cy ad E G A maxL Q) (fun _ : Unit => EndBC X (Y3 cy ad E G A maxL Q) cc rm σ k g) 0 0 0 (lv_args 0 av) [] σ (some ())) :
    CbC Z l y cc maxL (some (.array ty)) rm cy ad E G av σ k g := by
  intro sz
  refine va_MetF (cc := cc) (maxL := maxL) (ret := some (.array ty)) hy rfl ?_
  intro p e s m args below meth c s₁ B hml hv
  obtain ⟨rfl, ⟨hsz, hP, hK, hD0⟩, hZ⟩ := hv
  have hts := atoms_spec (ws := Cond.code y cc maxL (some (.array ty)) :: lwG) B.pre
  subst hsz
  have hD := hD0.self (sz := s.heap.size)
  have hl := lv_entry av (n := maxL) hf
  rw [lg_entry_eq]
  refine body (p, l, e, (headSpec (Cond.code y cc maxL (some (.array ty)) :: lwG) rm).room, s, m, av.toArray, below, meth, c) (va_A (wlc cy ad E σ) s.heap.size) _ hZ rfl ⟨B.exec, B.bytes, hml, findClass_of_methodNamed B.named, fun w h => hts w (List.mem_cons_of_mem _ h), hK, fun q h => Or.inr h, B.notSynchronized, rfl, B.returns⟩ () rfl ?_ s.heap [] _ hP hD va_S.rf hw hl
  intro pc L q d H locs ls hP hD hS hw hl
  exact W.aret (v := .ref q) B.exec B.bytes B.returns (Or.inr ⟨_, rfl⟩) (Or.inr ⟨_, rfl⟩) (fun t ht hW => ⟨⟨some q, q, rfl, ⟨rfl, hw⟩, by rw [ht]; exact hP, hD⟩, hS.F ht⟩) hS.2.2 d B.notSynchronized
theorem T_bcret (w : O) (hk : kp w → EndBC X (Y3 cy ad E G A nL Q) cc Rm σ k g) (hc : a ≤ Rm.cells ∧ b ≤ Rm.slots) (d : decode cc pc = .ok (.areturn, 1)) : T X (Y3 cy ad E G A nL Q) kp a b pc L [.ref q] (σ, q, k, g) (some w) := fun o h hko => by
  cases h
  exact fun H locs ls hP hD hS hw hl => W.widen hc.1 hc.2 (hk hko pc L q d H locs ls hP hD hS hw hl)
theorem T_bC (zk : Zok Z) (hZ : Zx Z X (Yc cy ad E G A nL Q)) (C : Cx X (Yc cy ad E G A nL Q) cc own ret Rm (tyc cy)) (As rest : List Value) (ct : wfc σ → CbC Z X.2.1 y ccy maxL rety rm cy ad E G As σ k g) (hlink : Cond.methodLink own idx y ∈ lwG) (hm : cmS y ccy maxL rety n) (hn : As.length = n) (hst : st = As.reverse ++ rest) (hcat : (rest.map fun v => v.category).sum ≤ 8) (hR : rmFit rm Rm maxL a b) {a' b' : Nat} (hab : a + rm.cells = a' ∧ b + rm.slots = b')
    (d : decode cc pc = .ok (.invokestatic idx, 3)) (K : ∀ q : Nat, T X (Y3 cy ad E G A nL Q) kp a' b' (pc + 3) L (.ref q :: rest) (σ, q, k, g) rr) : T X (Yc cy ad E G A nL Q) kp a b pc L st σ rr := fun w h hk => by
  intro H locs ls hP hD hS hw hl
  obtain ⟨hx, hb, hml, hown, hts, hK, hA, -, hRm, -⟩ := C
  obtain ⟨m1, m2, m3, m4⟩ := hm
  obtain ⟨⟨r1, r2⟩, r3, r4⟩ := hR
  obtain ⟨rfl, rfl⟩ := hab
  have hF := callFree hA hD hS
  subst hst
  refine va_callq (va_runS (As := As) (rest := rest) ⟨hx, hb, hml, hown, hts⟩ (ct hw H.size) ⟨callB_of n hts (lwG_good m1) rfl rfl rfl (hts _ m2) (hts _ hlink) m3 (by rw [hRm]; exact ⟨r1, r2⟩), hts _ m4⟩ ⟨preZ_blind zk, fun U hU hW => ⟨rfl, ⟨by rw [hU], by rw [hU]; exact hP, va_K.moved hW.alike hK, hD.weaken (fun _ _ _ _ => trivial)⟩, by rw [hU]; exact zk.2.2 _ _ _ _ (zk.1 _ _ _ _ hW (zk.2.1 _ _ _ _ hZ hS.2.1)) hF⟩⟩ rfl hn hl.1 rfl (lv_room hcat) d (by rw [hRm]; exact ⟨r3, r4⟩)) hS (fun q _ h => hF q h) hF (fun r u t H1 locs1 ht hvm hw1 hB hz hk9 hS1 => ?_)
  obtain ⟨rfl, hwf⟩ := hw1
  obtain ⟨hP1, hD1⟩ := hB
  rw [ht] at hP1
  exact K u w h hk H1 locs1 ls hP1 (hD1.weaken (fun _ q _ h => hF q.1 h)) hS1 hwf hl
theorem wl3_390 {u : SB3} : (wl3 cy ad E u)[390]? = some (ad 390, .inr (1, [.ref (u.1 390 0).toNat, vi (u.1 390 1), vi (u.1 390 2), vi (u.1 390 3)])) := by
  unfold wl3
  rw [List.getElem?_append_left (by rw [wlc_len]; decide), wlc_390]
theorem wl3_p390 : ((wl3 cy ad E (σ, q, k, g)).set 390 (ad 390, .inr (1, [.ref q, vi (σ 390 1), vi (σ 390 2), vi (σ 390 3)]))).Perm (wlc cy ad E (nb σ q k g) ++ [((σ 390 0).toNat, .inl (cy 7, (σ 390 9).toNat, .inl (fun j => Int32.ofInt (σ 391 j))))]) := by
  have hf : ((List.range 391).map (fun r => (ad r, entK cy ad E (kd r) r (σ r)))).set 390 (ad 390, .inr (1, [.ref q, vi (σ 390 1), vi (σ 390 2), vi (σ 390 3)])) = (List.range 391).map (fun r => (ad r, entK cy ad E (kd r) r (nb σ q k g r))) := by
    apply List.ext_getElem?
    intro j
    by_cases hj : j = 390
    · subst hj
      rw [List.getElem?_set_self (by simp), List.getElem?_map, List.getElem?_range (by decide), Option.map_some]
      have h1 : (nb σ q k g 390 0).toNat = q := by simp [nb]
      have h2 : nb σ q k g 390 1 = σ 390 1 ∧ nb σ q k g 390 2 = σ 390 2 ∧ nb σ q k g 390 3 = σ 390 3 := by simp [nb]
      show _ = some (ad 390, Sum.inr (1, [Value.ref (nb σ q k g 390 0).toNat, vi (nb σ q k g 390 1), vi (nb σ q k g 390 2), vi (nb σ q k g 390 3)]))
      rw [h1, h2.1, h2.2.1, h2.2.2]
    · rw [List.getElem?_set_ne (fun e => hj e.symm)]
      by_cases h1 : j < 391
      · rw [List.getElem?_map, List.getElem?_map, List.getElem?_range h1, Option.map_some, Option.map_some]
        have : nb σ q k g j = σ j := by
          funext i
          have h2 : j ≠ 391 := by omega
          simp [nb, hj, h2]
        rw [this]
      · rw [List.getElem?_eq_none (by simp; omega), List.getElem?_eq_none (by simp; omega)]
  have h9 : (nb σ q k g 390 0).toNat = q ∧ (nb σ q k g 390 9).toNat = k ∧ nb σ q k g 391 = g := ⟨by simp [nb], by simp [nb], by funext i; simp [nb]⟩
  unfold wl3 wlc
  rw [List.append_assoc, List.set_append_left _ _ (by simp), hf, h9.1, h9.2.1, h9.2.2, List.append_assoc]
  exact List.Perm.append_left _ (List.Perm.swap _ _ _)
theorem wfc_nb (h : wfc σ) (hg : ∀ j, 0 ≤ g j ∧ g j < 128) : wfc (nb σ q k g) := fun r i => by
  by_cases h1 : r = 390
  · subst h1; rw [kd_390]; exact trivial
  · by_cases h2 : r = 391
    · subst h2
      show rng _
      have : nb σ q k g 391 i = g i := by simp [nb]
      rw [this]
      have := hg i
      unfold rng; omega
    · have : nb σ q k g r i = σ r i := by simp [nb, h1, h2]
      rw [this]
      exact h r i
theorem T_put0 (C : Cx X (Y3 cy ad E G A nL Q) cc own ret Rm (tyc cy)) (hin : ∀ w ∈ u_ws RJ4 TJ4 4, w ∈ lwG) (hlink : Cond.fieldLink own idx (TJ4 0).1 (TJ4 0).2.1 (TJ4 0).2.2.1 ∈ lwG) (hg : ∀ j, 0 ≤ g j ∧ g j < 128) (d : decode cc pc = .ok (.putfield idx, 3)) (K : T X (Yc cy ad E G A nL Q) kp a b (pc + 3) L st (nb σ q k g) rr) : T X (Y3 cy ad E G A nL Q) kp a b pc L (.ref q :: .ref (ad 390) :: st) (σ, q, k, g) rr := fun o h hk2 H locs ls hP hD hS hw hl => by
  refine va_put (ci := 1) (q0 := 390) C.1 C.2.1 (Ts := lwG) C.2.2.2.2.1 hin tyJ4 tyJ4_ok nmJ4 C.2.2.2.1 C.2.2.2.2.2.1 hP hD hS wl3_390 rfl 0 (by omega) (C.2.2.2.2.1 _ hlink) (fun _ h9 => h9) rfl (ty := .array .byte) (by decide +kernel) rfl rfl (by simp) d (fun H1 locs1 hP1 hD1 hS1 => ?_)
  exact K o h hk2 H1 locs1 ls (va_P_left (va_P_perm wl3_p390 hP1)) (va_D_left (va_D_perm wl3_p390 hD1)) hS1 (wfc_nb hw hg) hl
end BN
