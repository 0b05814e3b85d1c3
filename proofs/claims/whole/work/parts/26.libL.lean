/-! THE LAW'S WORLD: the class's, the model's, out and outD; a call of a smaller world inside it -/
theorem va_P_perm {D : va_G} {cl : List vw_C} {ws ws' : va_W} {H : Heap} (h : ws.Perm ws') (hP : va_P D cl ws H) : va_P D cl ws' H := fun k q hq => by
  have hm : q ∈ ws := h.symm.mem_iff.mp (List.mem_of_getElem? hq)
  obtain ⟨i, hi⟩ := List.getElem?_of_mem hm
  exact hP i q hi
theorem va_D_iff {A : Nat → Prop} {ws : va_W} : va_D A ws ↔ (ws.map Prod.fst).Nodup ∧ ∀ q ∈ ws, A q.1 := by
  constructor
  · intro h
    refine ⟨?_, fun q hq => ?_⟩
    · show List.Pairwise _ _
      rw [List.pairwise_iff_getElem]
      intro i j hi hj hij e
      simp only [List.length_map] at hi hj
      simp only [List.getElem_map] at e
      have := h.1 i j _ _ (List.getElem?_eq_getElem hi) (List.getElem?_eq_getElem hj) e
      omega
    · obtain ⟨i, hi⟩ := List.getElem?_of_mem hq
      exact h.2 i q hi
  · rintro ⟨h1, h2⟩
    refine ⟨fun i j p q hi hj e => ?_, fun k q hq => h2 q (List.mem_of_getElem? hq)⟩
    obtain ⟨hi2, hi3⟩ := List.getElem?_eq_some_iff.mp hi
    obtain ⟨hj2, hj3⟩ := List.getElem?_eq_some_iff.mp hj
    have h1' : List.Pairwise (· ≠ ·) (ws.map Prod.fst) := h1
    rw [List.pairwise_iff_getElem] at h1'
    apply Decidable.byContradiction
    intro hne
    rcases Nat.lt_or_gt_of_ne hne with h | h
    · exact h1' i j (by simpa using hi2) (by simpa using hj2) h (by simp [hi3, hj3, e])
    · exact h1' j i (by simpa using hj2) (by simpa using hi2) h (by simp [hi3, hj3, e])
theorem va_D_perm {A : Nat → Prop} {ws ws' : va_W} (h : ws.Perm ws') (hD : va_D A ws) : va_D A ws' := by
  rw [va_D_iff] at *
  exact ⟨(h.map _).nodup_iff.mp hD.1, fun q hq => hD.2 q (h.mem_iff.mpr hq)⟩
theorem va_frame {D : va_G} {cl : List vw_C} {A : Nat → Prop} {w1 w2 w1' : va_W} {H H1 : Heap} (hP : va_P D cl (w1 ++ w2) H) (hD : va_D A (w1 ++ w2)) (hP1 : va_P D cl w1' H1) (hD1 : va_D (va_A w1 H.size) w1') (hk : ∀ q : Nat, q < H.size → ¬ va_A w1 H.size q → H1[q]? = H[q]?) (hA : ∀ q, va_A w1 H.size q → A q) : va_P D cl (w1' ++ w2) H1 ∧ va_D A (w1' ++ w2) := by
  have hD0 := va_D_iff.mp hD
  have hnd := hD0.1
  rw [List.map_append, List.nodup_append] at hnd
  have hP2 : va_P D cl w2 H := fun k q hq => by
    obtain ⟨i, hi⟩ := List.getElem?_of_mem (List.mem_append_right w1 (List.mem_of_getElem? hq))
    exact hP i q hi
  have hout : ∀ q ∈ w2, q.1 < H.size ∧ ¬ va_A w1 H.size q.1 := fun q hq => by
    obtain ⟨i, hi⟩ := List.getElem?_of_mem hq
    have hlt := vx_lt hP2 hi
    refine ⟨hlt, fun h => ?_⟩
    rcases h with ⟨k, e, h⟩ | h
    · exact hnd.2.2 q.1 (List.mem_map.mpr ⟨(q.1, e), List.mem_of_getElem? h, rfl⟩) q.1 (List.mem_map.mpr ⟨q, hq, rfl⟩) rfl
    · omega
  have hD1' := va_D_iff.mp hD1
  refine ⟨hP1.app (hP2.kept (fun k q hq => hk _ (hout q (List.mem_of_getElem? hq)).1 (hout q (List.mem_of_getElem? hq)).2)), va_D_iff.mpr ⟨?_, fun q hq => ?_⟩⟩
  · rw [List.map_append, List.nodup_append]
    refine ⟨hD1'.1, hnd.2.1, fun a ha b hb e => ?_⟩
    obtain ⟨p, hp, rfl⟩ := List.mem_map.mp ha
    obtain ⟨q, hq, rfl⟩ := List.mem_map.mp hb
    exact (hout q hq).2 (e ▸ hD1'.2 p hp)
  · rcases List.mem_append.mp hq with h | h
    · exact hA _ (hD1'.2 q h)
    · exact hD0.2 q (List.mem_append_right _ h)
abbrev SL : Type := Sm × Sm × Int × UInt64
def opL (o : Int) : Nat → Int64 := fun j => if j = 0 then Int64.ofInt o else 0
def opD (d : UInt64) : Nat → UInt64 := fun j => if j = 0 then d else 0
def wlO (cy : Nat → ClassId) (adm : Nat → Nat) (o : Int) (d : UInt64) : va_W := [(adm 11, .inl (cy 8, 1, .inr (.inl (opL o)))), (adm 12, .inl (cy 9, 1, .inr (.inr (.inr (.inl (opD d))))))]
def wlL (cy : Nat → ClassId) (adc adm : Nat → Nat) (E : Nat → Nat → Nat) (σ : SL) : va_W := wlc cy adc E σ.1 ++ (wlm (cy 0) adm σ.2.1 ++ wlO cy adm σ.2.2.1 σ.2.2.2)
def wfL (σ : SL) : Prop := wfc σ.1 ∧ wfm σ.2.1 ∧ rng σ.2.2.1
abbrev tyL (cy : Nat → ClassId) : List (ClassId × FieldType) := tyc cy ++ [(cy 8, .long), (cy 9, .double)]
abbrev YL (cy : Nat → ClassId) (adc adm : Nat → Nat) (E : Nat → Nat → Nat) (G : va_G) (A : Nat → Prop) (nL : Nat) (Q : State → Prop) : vjY SL := (wlL cy adc adm E, wfL, G, A, nL, Q)
theorem wlL_m {cy : Nat → ClassId} {adc adm : Nat → Nat} {E : Nat → Nat → Nat} {σ : SL} : (wlL cy adc adm E σ).Perm (wlm (cy 0) adm σ.2.1 ++ (wlc cy adc E σ.1 ++ wlO cy adm σ.2.2.1 σ.2.2.2)) := by
  unfold wlL
  rw [← List.append_assoc, ← List.append_assoc]
  exact List.perm_append_comm.append_right _
theorem tyL_c {cy : Nat → ClassId} {G : va_G} {U : State} (h : va_K G vwCl (tyL cy) U) : va_K G vwCl (tyc cy) U := h.sub [0, 1, 2, 3, 4, 5, 6, 7] rfl
theorem tyL_m {cy : Nat → ClassId} {G : va_G} {U : State} (h : va_K G vwCl (tyL cy) U) : va_K G vwCl (tym (cy 0)) U := h.sub [0] rfl
/-- an exception of the x-th class has come to this frame at pc -/
def JX {S : Type} (X : vjX) (Y : vjY S) (a b pc : Nat) (L : List (Nat × Value)) (st : List Value) (σ : S) (x : Nat) : Prop :=
  ∀ (H : Heap) (locs : List Loc) (ls : Array Slot) (q : Addr) (ce : Cell), va_P Y.2.2.1 vwCl (Y.1 σ) H → va_D Y.2.2.2.1 (Y.1 σ) → va_S Y.2.2.2.1 X.2.2.2.2.1.heap H locs → Y.2.1 σ → lv_has ls Y.2.2.2.2.1 L → H[q]? = some ce → ce.vm = .none → X.2.2.2.2.1.vm.findClass (xn x) = some ce.cls →
    vx_W X.1 X.2.1 X.2.2.1 X.2.2.2.1 X.2.2.2.2.1 X.2.2.2.2.2.1 X.2.2.2.2.2.2.1 X.2.2.2.2.2.2.2.1 X.2.2.2.2.2.2.2.2.1 X.2.2.2.2.2.2.2.2.2 H locs a b Y.2.2.2.2.2 (F0 X.2.2.2.2.2.1 pc ls st) q
def TX {S O : Type} (X : vjX) (Y : vjY S) (kp : O → Prop) (a b pc : Nat) (L : List (Nat × Value)) (st : List Value) (σ : S) (x : Nat) (r : Option O) : Prop := ∀ o, r = some o → kp o → JX X Y a b pc L st σ x
def ncL : List (Nat × Nat) := [(1, 2), (1, 3), (1, 4), (1, 5), (2, 1), (2, 3), (2, 4), (2, 5), (3, 1), (3, 2), (3, 4), (3, 5), (4, 1), (4, 2), (4, 3), (4, 5), (5, 1), (5, 2), (5, 3), (5, 4)]
def ZE (Z : vZ) : Prop := ∀ (A : Nat → Prop) (U : State) (H : Heap), Z A U H → ∀ q ∈ ncL, va_Nc (xn q.1) (xn q.2) U
section LX
variable {S O : Type} {Z : vZ} {X : vjX} {Y : vjY S} {kp : O → Prop} {cc : ByteArray} {own : String} {ret : Option FieldType} {Rm : Room} {tys : List (ClassId × FieldType)} {a b pc : Nat} {L L' : List (Nat × Value)} {st : List Value} {σ : S} {r : Option O} {x : Nat}
theorem TX_none : TX X Y kp a b pc L st σ x (none : Option O) := fun o h _ => by cases h
theorem TX_ite {n : Nat} {r1 r2 : Option O} (kt : x = n → TX X Y kp a b pc L st σ x r1) (kf : TX X Y kp a b pc L st σ x r2) : TX X Y kp a b pc L st σ x (if x = n then r1 else r2) := fun o h hk => by
  by_cases q : x = n
  · rw [if_pos q] at h; exact kt q o h hk
  · rw [if_neg q] at h; exact kf o h hk
theorem TX_catch (zn : ZN Z) (zE : ZE Z) (hZ : Zx Z X Y) (C : Cx X Y cc own ret Rm tys) {hh : List (Nat × Nat × Nat × Nat)} (htab : X.2.2.2.2.2.2.2.2.2.exceptionTable.toList = tableOf hh) (n : Nat) (hn : x = n) (pre suf : List (Nat × Nat × Nat × Nat)) (e : Nat × Nat × Nat × Nat) (hsplit : hh = pre ++ e :: suf) (hpass : ∀ z ∈ pre, z.2.2.2 ≠ 0 ∧ ∃ k : Nat, Cond.classLink own z.2.2.2 (xn k) ∈ lwG ∧ (n, k) ∈ ncL) (hcov : covers ⟨e.1, e.2.1, e.2.2.1, e.2.2.2⟩ pc = true) (h0 : e.2.2.2 ≠ 0) (hlink : Cond.classLink own e.2.2.2 (xn n) ∈ lwG) (hcast : Cond.castable (xn n) (xn n) ∈ nwL)
    (K : ∀ q : Nat, T X Y kp a b e.2.2.1 L [.ref q] σ r) : TX X Y kp a b pc L st σ x r := fun o h hk H locs ls q ce hP hD hS hw hl hq hv hc => by
  subst hn
  obtain ⟨hx, hb, hml, hown, hts, hK, hA, hlk, hRm, hret⟩ := C
  refine vx_catch hown (tableOf pre) ⟨e.1, e.2.1, e.2.2.1, e.2.2.2⟩ (tableOf suf) (by rw [htab, hsplit]; simp [tableOf]) (fun z hz => ?_) hcov h0 (hts _ hlink) (va_Nw.use (nwL_ot _ hcast) (zn _ _ _ hZ _ hcast)) hq hv hc (K q o h hk H locs ls hP hD hS hw hl)
  unfold tableOf at hz
  obtain ⟨w, hw1, rfl⟩ := List.mem_map.mp hz
  obtain ⟨h1, k, h2, h3⟩ := hpass w hw1
  exact Or.inr ⟨h1, xn k, hts _ h2, zE _ _ _ hZ _ h3⟩
end LX
/-- a helper of the law -/
def ClI (Z : vZ) (l : Launch) (y : MethodName) (cc : ByteArray) (maxL : Nat) (hh : List (Nat × Nat × Nat × Nat)) (rm : Room) (cy : Nat → ClassId) (adc adm : Nat → Nat) (E : Nat → Nat → Nat) (G : va_G) (av : List Value) (σ σ' : SL) (v : Int) : Prop :=
  ∀ sz : Nat, Met l y (Cond.codeWith y cc maxL (some .int) hh :: lwG) rm (va_Pc av (preZ Z (wlL cy adc adm E) G (tyL cy) sz σ)) (va_Qi (fun (r : Int32) (_ : Unit) => r = Int32.ofInt v ∧ (rng v ∧ nar (some .int) v) ∧ wfL σ') (fun _ t => va_P G vwCl (wlL cy adc adm E σ') t.heap ∧ va_D (va_A (wlL cy adc adm E σ) sz) (wlL cy adc adm E σ')) (va_A (wlL cy adc adm E σ) sz)) rm.cells rm.slots (va_A (wlL cy adc adm E σ) sz)
theorem clI_of {Z : vZ} {l : Launch} {y : MethodName} {cc : ByteArray} {maxL : Nat} {hh : List (Nat × Nat × Nat × Nat)} {rm : Room} {cy : Nat → ClassId} {adc adm : Nat → Nat} {E : Nat → Nat → Nat} {G : va_G} {av : List Value} {σ : SL} (hy : plainName y.cls = true) (hf : (lg_sl av).length ≤ maxL) (hw : wfL σ) (o : SL × Int) {r : Option (SL × Int)} (hr : r = some o)
    (body : ∀ (X : vjX) (A : Nat → Prop) (Q : State → Prop), Zx Z X (YL cy adc adm E G A maxL Q) → X.2.1 = l → X.2.2.2.2.2.2.2.2.2.exceptionTable.toList = tableOf hh → Cx X (YL cy adc adm E G A maxL Q) cc y.cls (some .int) rm (tyL cy) → T X (YL cy adc adm E G A maxL Q) (fun w => EndI X (YL cy adc adm E G A maxL Q) cc rm .int w) 0 0 0 (lv_args 0 av) [] σ r) :
    ClI Z l y cc maxL hh rm cy adc adm E G av σ o.1 o.2 := by
  intro sz
  refine va_MetW (cc := cc) (maxL := maxL) (ret := some .int) (hh := hh) hy rfl ?_
  intro p e s m args below meth c s₁ B hml hv
  obtain ⟨rfl, ⟨hsz, hP, hK, hD0⟩, hZ⟩ := hv
  have hts := atoms_spec (ws := Cond.codeWith y cc maxL (some .int) hh :: lwG) B.pre
  subst hsz
  have hD := hD0.self (sz := s.heap.size)
  have hl := lv_entry av (n := maxL) hf
  rw [lg_entry_eq]
  refine body (p, l, e, (headSpec (Cond.codeWith y cc maxL (some .int) hh :: lwG) rm).room, s, m, av.toArray, below, meth, c) (va_A (wlL cy adc adm E σ) s.heap.size) _ hZ rfl (vx_table (x := y) B (hts _ List.mem_cons_self)) ⟨B.exec, B.bytes, hml, findClass_of_methodNamed B.named, fun w h => hts w (List.mem_cons_of_mem _ h), hK, fun q h => Or.inr h, B.notSynchronized, rfl, B.returns⟩ o hr ?_ s.heap [] _ hP hD va_S.rf hw hl
  intro pc L d hrg hn H locs ls hP hD hS hw hl
  exact W.zret (v := Int32.ofInt o.2) B.exec B.bytes B.returns hn (fun t ht hW => ⟨⟨Int32.ofInt o.2, (), rfl, ⟨rfl, ⟨hrg, fun ty' e' => by cases e'; exact hn⟩, hw⟩, by rw [ht]; exact hP, hD⟩, hS.F ht⟩) hS.2.2 d B.notSynchronized
