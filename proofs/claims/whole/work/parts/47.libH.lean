/-! the law's helpers of renderLine, renderTicket: what the builder's bytes are is left open -/
abbrev SR : Type := (SL × Int) × List Int
def RR (o : SR) (τ : SL) : Prop := τ.2 = o.1.1.2 ∧ (o.1.2 = 0 → Bd o.1.1.1 o.2 τ.1) ∧ (o.1.2 ≠ 0 → τ.1 = o.1.1.1)
noncomputable def dall {T : Type} (P : T → Prop) (f : T → Option Unit) : Option Unit := @ite _ (∀ τ, P τ → f τ = some ()) (Classical.propDecidable _) (some ()) none
noncomputable def oB {O : Type} (p : Prop) (r : Option O) : Option O := @ite _ p (Classical.propDecidable _) r none
theorem oB_pos {O : Type} {p : Prop} {r : Option O} (h : p) : oB p r = r := by unfold oB; exact if_pos h
theorem dall_some {T : Type} {P : T → Prop} {f : T → Option Unit} (h : ∀ τ, P τ → f τ = some ()) : dall P f = some () := by unfold dall; exact if_pos h
theorem dall_all {T : Type} {P : T → Prop} {f : T → Option Unit} {w : Unit} (h : dall P f = some w) : ∀ τ, P τ → f τ = some () := by
  unfold dall at h
  split at h
  · assumption
  · cases h
theorem T_oB {S O : Type} {X : vjX} {Y : vjY S} {kp : O → Prop} {a b pc : Nat} {L : List (Nat × Value)} {st : List Value} {σ : S} {p : Prop} {r : Option O} (K : p → T X Y kp a b pc L st σ r) : T X Y kp a b pc L st σ (oB p r) := fun o h hk => by
  unfold oB at h
  split at h
  · rename_i hp; exact K hp o h hk
  · cases h
theorem T_exitU {S O : Type} {X : vjX} {Y : vjY S} {kp : O → Prop} {a b pc : Nat} {L : List (Nat × Value)} {st : List Value} {σ : S} (w : O) (h : kp w → J X Y a b pc L st σ) : T X Y kp a b pc L st σ (some w) := fun o e hk => by
  cases e; exact h hk
section LH
variable {O : Type} {Z : vZ} {X : vjX} {kp : O → Prop} {cc : ByteArray} {own : String} {ret : Option FieldType} {Rm : Room} {a b pc : Nat} {L L' : List (Nat × Value)} {st : List Value} {σ : SL} {cy : Nat → ClassId} {adc adm : Nat → Nat} {E : Nat → Nat → Nat} {G : va_G} {A : Nat → Prop} {nL : Nat} {Q : State → Prop}
variable {y : MethodName} {ccy : ByteArray} {maxL : Nat} {rety : Option FieldType} {rm : Room} {idx n : Nat}
theorem J_lyi (zk : Zok Z) (hZ : Zx Z X (YL cy adc adm E G A nL Q)) (C : Cx X (YL cy adc adm E G A nL Q) cc own ret Rm (tyL cy)) (As rest : List Value) (o : Sy) {q : Nat} (ct : wfc σ.1 → CyI Z X.2.1 y ccy maxL rety rm cy adc E G (.ref q :: As) σ.1 o) (hlink : Cond.methodLink own idx y ∈ lwG) (hm : cmV y ccy maxL rety n) (hrc : va_Rc (wlc cy adc E σ.1) q y.cls) (hn : As.length = n) (hst : st = As.reverse ++ .ref q :: rest) (hcat : (rest.map fun v => v.category).sum ≤ 8) (hR : rmFit rm Rm maxL a b) {a' b' : Nat} (hab : a + rm.cells = a' ∧ b + rm.slots = b')
    (d : decode cc pc = .ok (.invokevirtual idx, 3)) (hx : o.1.2.1 ≠ 0 → JX X (YL cy adc adm E G A nL Q) a' b' pc L rest (o.1.1, σ.2) o.1.2.1) (K : ∀ τ : Sm, Bd o.1.1 o.2 τ → o.1.2.1 = 0 → rng o.1.2.2 ∧ nar rety o.1.2.2 → J X (YL cy adc adm E G A nL Q) a' b' (pc + 3) L (vi o.1.2.2 :: rest) (τ, σ.2)) : J X (YL cy adc adm E G A nL Q) a b pc L st σ := by
  intro H locs ls hP hD hS hw hl
  obtain ⟨hx1, hb, hml, hown, hts, hK, hA, -, hRm, -⟩ := C
  obtain ⟨m1, m2, m3, m4, m5⟩ := hm
  obtain ⟨⟨r1, r2⟩, r3, r4⟩ := hR
  obtain ⟨rfl, rfl⟩ := hab
  have hPc := va_P_left (w1 := wlc cy adc E σ.1) hP
  have hDc := va_D_left (w1 := wlc cy adc E σ.1) hD
  have hKc := tyL_c hK
  have hF := callFree hA hDc hS
  obtain ⟨q0, ci, fs, T0, N0, e1, e2⟩ := hrc
  subst hst
  refine vx_calli (vx_runV (As := As) (rest := rest) ⟨hx1, hb, hml, hown, hts⟩ (ct hw.1 H.size) ⟨callB_of n hts (lwG_good m1) rfl rfl rfl (hts _ m2) (hts _ hlink) m3 (by rw [hRm]; exact ⟨r1, r2⟩), hts _ m4, hts _ m5⟩ ⟨preZ_blind zk, va_recv hKc hPc e2 e1, fun U hU hW => ⟨rfl, ⟨by rw [hU], by rw [hU]; exact hPc, va_K.moved hW.alike hKc, hDc.weaken (fun _ _ _ _ => trivial)⟩, by rw [hU]; exact zk.2.2 _ _ _ _ (zk.1 _ _ _ _ hW (zk.2.1 _ _ _ _ hZ hS.2.1)) hF⟩⟩ rfl hn hl.1 rfl (lv_room hcat) d (by rw [hRm]; exact ⟨r3, r4⟩)) hS (fun q _ h => hF q h) hF (fun q _ h => hF q h) (fun Ex ce q9 u t H1 locs1 ht hvm hpx hB hz hk hS1 hq9 hv9 hc9 => ?_) (fun r u t H1 locs1 ht hvm hw1 hB hz hk hS1 => ?_)
  · obtain ⟨hx0, hwf⟩ := hpx
    obtain ⟨rfl, hP1, hD1⟩ := hB
    rw [ht] at hP1
    obtain ⟨hP2, hD2⟩ := va_frame hP hD hP1 hD1 hk hF
    exact hx hx0 H1 locs1 ls q9 ce hP2 hD2 hS1 ⟨hwf, hw.2⟩ hl hq9 hv9 hc9
  · obtain ⟨h0, rfl, hr, hBd, hwf⟩ := hw1
    obtain ⟨hP1, hD1⟩ := hB
    rw [ht] at hP1
    obtain ⟨hP2, hD2⟩ := va_frame hP hD hP1 hD1 hk hF
    exact K u hBd h0 hr H1 locs1 ls hP2 hD2 hS1 ⟨hwf, hw.2⟩ hl
theorem T_lyi (zk : Zok Z) (hZ : Zx Z X (YL cy adc adm E G A nL Q)) (C : Cx X (YL cy adc adm E G A nL Q) cc own ret Rm (tyL cy)) (As rest : List Value) {q : Nat} {f : Option Sy} {k kx : Sy → Option O} (ct : ∀ o, f = some o → wfc σ.1 → CyI Z X.2.1 y ccy maxL rety rm cy adc E G (.ref q :: As) σ.1 o) (hlink : Cond.methodLink own idx y ∈ lwG) (hm : cmV y ccy maxL rety n) (hrc : va_Rc (wlc cy adc E σ.1) q y.cls) (hn : As.length = n) (hst : st = As.reverse ++ .ref q :: rest) (hcat : (rest.map fun v => v.category).sum ≤ 8) (hR : rmFit rm Rm maxL a b) {a' b' : Nat} (hab : a + rm.cells = a' ∧ b + rm.slots = b')
    (d : decode cc pc = .ok (.invokevirtual idx, 3)) (KX : ∀ o, TX X (YL cy adc adm E G A nL Q) kp a' b' pc L rest (o.1.1, σ.2) o.1.2.1 (kx o)) (K : ∀ o τ, Bd o.1.1 o.2 τ → rng o.1.2.2 ∧ nar rety o.1.2.2 → T X (YL cy adc adm E G A nL Q) kp a' b' (pc + 3) L (vi o.1.2.2 :: rest) (τ, σ.2) (k o)) : T X (YL cy adc adm E G A nL Q) kp a b pc L st σ (f.bind fun o => if o.1.2.1 = 0 then k o else kx o) := fun w h hk => by
  obtain ⟨o, ho, h2⟩ := Option.bind_eq_some_iff.mp h
  refine J_lyi zk hZ C As rest o (ct o ho) hlink hm hrc hn hst hcat hR hab d (fun h0 => ?_) (fun τ hB h0 hr => ?_)
  · rw [if_neg h0] at h2; exact KX o w h2 hk
  · rw [if_pos h0] at h2; exact K o τ hB hr w h2 hk
/-- a helper of the law, its state by a relation -/
def ClR (Z : vZ) (l : Launch) (y : MethodName) (cc : ByteArray) (maxL : Nat) (hh : List (Nat × Nat × Nat × Nat)) (rm : Room) (cy : Nat → ClassId) (adc adm : Nat → Nat) (E : Nat → Nat → Nat) (G : va_G) (av : List Value) (σ : SL) (o : SR) : Prop :=
  ∀ sz : Nat, Met l y (Cond.codeWith y cc maxL (some .int) hh :: lwG) rm (va_Pc av (preZ Z (wlL cy adc adm E) G (tyL cy) sz σ)) (va_Qi (fun (r : Int32) (τ : SL) => r = Int32.ofInt o.1.2 ∧ (rng o.1.2 ∧ nar (some .int) o.1.2) ∧ RR o τ ∧ wfL τ) (fun τ t => va_P G vwCl (wlL cy adc adm E τ) t.heap ∧ va_D (va_A (wlL cy adc adm E σ) sz) (wlL cy adc adm E τ)) (va_A (wlL cy adc adm E σ) sz)) rm.cells rm.slots (va_A (wlL cy adc adm E σ) sz)
def EndR (X : vjX) (Y : vjY SL) (cc : ByteArray) (Rm : Room) (ty : FieldType) (o : SR) : Prop := ∀ (pc : Nat) (L : List (Nat × Value)) (τ : SL), decode cc pc = .ok (.ireturn, 1) → rng o.1.2 → narrow ty (vi o.1.2) = vi o.1.2 → RR o τ → J X Y Rm.cells Rm.slots pc L [vi o.1.2] τ
theorem clR_of {l : Launch} {hh : List (Nat × Nat × Nat × Nat)} {av : List Value} (hy : plainName y.cls = true) (hf : (lg_sl av).length ≤ maxL) (hw : wfL σ) (o : SR) {r : Option SR} (hr : r = some o)
    (body : ∀ (X : vjX) (A : Nat → Prop) (Q : State → Prop), Zx Z X (YL cy adc adm E G A maxL Q) → X.2.1 = l → X.2.2.2.2.2.2.2.2.2.exceptionTable.toList = tableOf hh → Cx X (YL cy adc adm E G A maxL Q) cc y.cls (some .int) rm (tyL cy) → T X (YL cy adc adm E G A maxL Q) (fun w => EndR X (YL cy adc adm E G A maxL Q) cc rm .int w) 0 0 0 (lv_args 0 av) [] σ r) :
    ClR Z l y cc maxL hh rm cy adc adm E G av σ o := by
  intro sz
  refine va_MetW (cc := cc) (maxL := maxL) (ret := some .int) (hh := hh) hy rfl ?_
  intro p e s m args below meth c s₁ B hml hv
  obtain ⟨rfl, ⟨hsz, hP, hK, hD0⟩, hZ⟩ := hv
  have hts := atoms_spec (ws := Cond.codeWith y cc maxL (some .int) hh :: lwG) B.pre
  subst hsz
  have hD := hD0.self (sz := s.heap.size)
  have hl := lv_entry av (n := maxL) hf
  rw [lg_entry_eq]
  refine body (p, l, e, (headSpec (Cond.codeWith y cc maxL (some .int) hh :: lwG) rm).room, s, m, av.toArray, below, meth, c) (va_A (wlL cy adc adm E σ) s.heap.size) _ hZ rfl (vx_table (x := y) B (hts _ List.mem_cons_self)) ⟨B.exec, B.bytes, hml, findClass_of_methodNamed B.named, fun w h => hts w (List.mem_cons_of_mem _ h), hK, fun q h => Or.inr h, B.notSynchronized, rfl, B.returns⟩ o hr ?_ s.heap [] _ hP hD va_S.rf hw hl
  intro pc L τ d hrg hn hR H locs ls hP hD hS hw hl
  exact W.zret (v := Int32.ofInt o.1.2) B.exec B.bytes B.returns hn (fun t ht hW => ⟨⟨Int32.ofInt o.1.2, τ, rfl, ⟨rfl, ⟨hrg, fun ty' e' => by cases e'; exact hn⟩, hR, hw⟩, by rw [ht]; exact hP, hD⟩, hS.F ht⟩) hS.2.2 d B.notSynchronized
theorem T_rret {ty : FieldType} {v : Int} (w : O) (o : SR) (ho : o.1.2 = v) (hB : RR o σ) (hk : kp w → EndR X (YL cy adc adm E G A nL Q) cc Rm ty o) (hr : rng v) (hn : narrow ty (vi v) = vi v) (hc : a ≤ Rm.cells ∧ b ≤ Rm.slots) (d : decode cc pc = .ok (.ireturn, 1)) : T X (YL cy adc adm E G A nL Q) kp a b pc L [vi v] σ (some w) := fun w2 h hko => by
  cases h
  subst ho
  exact fun H locs ls hP hD hS hw hl => W.widen hc.1 hc.2 (hk hko pc L σ d hr hn hB H locs ls hP hD hS hw hl)
theorem T_lhR {kp : Unit → Prop} (zk : Zok Z) (hZ : Zx Z X (YL cy adc adm E G A nL Q)) (C : Cx X (YL cy adc adm E G A nL Q) cc own ret Rm (tyL cy)) {hh : List (Nat × Nat × Nat × Nat)} (As rest : List Value) {f : Option SR} {k : SR → SL → Option Unit} (ct : ∀ o, f = some o → wfL σ → ClR Z X.2.1 y ccy maxL hh rm cy adc adm E G As σ o) (hlink : Cond.methodLink own idx y ∈ lwG) (hm : cmL y ccy maxL hh n) (hn : As.length = n) (hst : st = As.reverse ++ rest) (hcat : (rest.map fun v => v.category).sum ≤ 8) (hR : rmFit rm Rm maxL a b) {a' b' : Nat} (hab : a + rm.cells = a' ∧ b + rm.slots = b')
    (d : decode cc pc = .ok (.invokestatic idx, 3)) (K : ∀ (o : SR) (τ : SL), RR o τ → rng o.1.2 → T X (YL cy adc adm E G A nL Q) kp a' b' (pc + 3) L (vi o.1.2 :: rest) τ (k o τ)) : T X (YL cy adc adm E G A nL Q) kp a b pc L st σ (f.bind fun o => dall (RR o) (k o)) := fun w h hk => by
  obtain ⟨o, ho, h2⟩ := Option.bind_eq_some_iff.mp h
  intro H locs ls hP hD hS hw hl
  obtain ⟨hx1, hb, hml, hown, hts, hK, hA, -, hRm, -⟩ := C
  obtain ⟨m1, m2, m3, m4⟩ := hm
  obtain ⟨⟨r1, r2⟩, r3, r4⟩ := hR
  obtain ⟨rfl, rfl⟩ := hab
  have hF := callFree hA hD hS
  subst hst
  have hg : GoodIn lwG (va_wsS own idx y (Cond.codeWith y ccy maxL (some .int) hh :: lwG)) := by
    intro w hw
    have hmw : w ∈ lwG := by
      unfold va_wsS at hw
      simp only [List.cons_append, List.nil_append, List.mem_cons] at hw
      rcases hw with rfl | rfl | rfl | rfl | hw
      · exact hlink
      · exact m4
      · exact m2
      · exact m1
      · exact hw
    exact ⟨hmw, good_of_word (List.mem_filter.mp hmw).2⟩
  refine va_calli (vx_runSW (As := As) (rest := rest) ⟨hx1, hb, hml, hown, hts⟩ (ct o ho hw H.size) (vx_cwSW n hts hg rfl rfl rfl m3 (by rw [hRm]; exact ⟨r1, r2⟩)) ⟨preZ_blind zk, fun U hU hW => ⟨rfl, ⟨by rw [hU], by rw [hU]; exact hP, va_K.moved hW.alike hK, hD.weaken (fun _ _ _ _ => trivial)⟩, by rw [hU]; exact zk.2.2 _ _ _ _ (zk.1 _ _ _ _ hW (zk.2.1 _ _ _ _ hZ hS.2.1)) hF⟩⟩ rfl hn hl.1 rfl (lv_room hcat) d (by rw [hRm]; exact ⟨r3, r4⟩)) hS (fun q _ h => hF q h) hF (fun r u t H1 locs1 ht hvm hw1 hB hz hk9 hS1 => ?_)
  obtain ⟨rfl, hr, hRR, hwf⟩ := hw1
  obtain ⟨hP1, hD1⟩ := hB
  rw [ht] at hP1
  exact K o u hRR hr.1 () (dall_all h2 u hRR) hk H1 locs1 ls hP1 (hD1.weaken (fun _ q _ h => hF q.1 h)) hS1 hwf hl
end LH
