/-! the law's own body: what it reads, answers that change nothing, doubles in its locals -/
def scv (xs : Nat → Int32) (i : Int) : Int := (xs i.toNat).toInt
theorem scv_rng (xs : Nat → Int32) (i : Int) : rng (scv xs i) := ⟨Int32.le_toInt _, by have := Int32.toInt_lt (xs i.toNat); unfold scv; omega⟩
def fcm (x y : UInt32) (op : CmpOp) : Int := (Op.cmpValue (FP.fcmp x y) op).toInt
theorem fcm_rng (x y : UInt32) (op : CmpOp) : rng (fcm x y op) := ⟨Int32.le_toInt _, by have := Int32.toInt_lt (Op.cmpValue (FP.fcmp x y) op); unfold fcm; omega⟩
section LW
variable {O : Type} {Z : vZ} {X : vjX} {kp : O → Prop} {cc : ByteArray} {own : String} {ret : Option FieldType} {Rm : Room} {a b pc : Nat} {L L' : List (Nat × Value)} {st : List Value} {σ : SL} {cy : Nat → ClassId} {adc adm : Nat → Nat} {E : Nat → Nat → Nat} {G : va_G} {A : Nat → Prop} {nL : Nat} {Q : State → Prop} {r : Option O}
variable {y : MethodName} {ccy : ByteArray} {maxL : Nat} {rety : Option FieldType} {rm : Room} {idx n : Nat}
theorem T_lzp (zk : Zok Z) (hZ : Zx Z X (YL cy adc adm E G A nL Q)) (C : Cx X (YL cy adc adm E G A nL Q) cc own ret Rm (tyL cy)) (As rest : List Value) {q : Nat} {f : Option Int} {k : Int → Option O} (ct : ∀ o, f = some o → wfc σ.1 → CzI Z X.2.1 y ccy maxL rety rm (wlc cy adc E) wfc G (tyc cy) (.ref q :: As) σ.1 σ.1 o) (hlink : Cond.methodLink own idx y ∈ lwG) (hm : cmV y ccy maxL rety n) (hrc : va_Rc (wlc cy adc E σ.1) q y.cls) (hn : As.length = n) (hst : st = As.reverse ++ .ref q :: rest) (hcat : (rest.map fun v => v.category).sum ≤ 8) (hR : rmFit rm Rm maxL a b) {a' b' : Nat} (hab : a + rm.cells = a' ∧ b + rm.slots = b')
    (d : decode cc pc = .ok (.invokevirtual idx, 3)) (K : ∀ o : Int, rng o ∧ nar rety o → T X (YL cy adc adm E G A nL Q) kp a' b' (pc + 3) L (vi o :: rest) σ (k o)) : T X (YL cy adc adm E G A nL Q) kp a b pc L st σ (f.bind k) := fun w h hk => by
  obtain ⟨o, ho, h2⟩ := Option.bind_eq_some_iff.mp h
  intro H locs ls hP hD hS hw hl
  obtain ⟨hx1, hb, hml, hown, hts, hK, hA, -, hRm, -⟩ := C
  obtain ⟨m1, m2, m3, m4, m5⟩ := hm
  obtain ⟨⟨r1, r2⟩, r3, r4⟩ := hR
  obtain ⟨rfl, rfl⟩ := hab
  have hPc := va_P_left (w1 := wlc cy adc E σ.1) hP
  have hDc := va_D_left (w1 := wlc cy adc E σ.1) hD
  have hKc := tyL_c hK
  have hF := callFree hA hDc hS
  obtain ⟨q0, ci, fs, T0, N0, e1, e2⟩ := hrc
  subst hst
  refine va_calli (va_runV (As := As) (rest := rest) ⟨hx1, hb, hml, hown, hts⟩ (ct o ho hw.1 H.size) ⟨callB_of n hts (lwG_good m1) rfl rfl rfl (hts _ m2) (hts _ hlink) m3 (by rw [hRm]; exact ⟨r1, r2⟩), hts _ m4, hts _ m5⟩ ⟨preZ_blind zk, va_recv hKc hPc e2 e1, fun U hU hW => ⟨rfl, ⟨by rw [hU], by rw [hU]; exact hPc, va_K.moved hW.alike hKc, hDc.weaken (fun _ _ _ _ => trivial)⟩, by rw [hU]; exact zk.2.2 _ _ _ _ (zk.1 _ _ _ _ hW (zk.2.1 _ _ _ _ hZ hS.2.1)) hF⟩⟩ rfl hn hl.1 rfl (lv_room hcat) d (by rw [hRm]; exact ⟨r3, r4⟩)) hS (fun q _ h => hF q h) hF (fun r u t H1 locs1 ht hvm hw1 hB hz hk9 hS1 => ?_)
  obtain ⟨rfl, hr, hwf⟩ := hw1
  obtain ⟨hP1, hD1⟩ := hB
  rw [ht] at hP1
  obtain ⟨hP2, hD2⟩ := va_frame hP hD hP1 hD1 hk9 hF
  exact K o hr w h2 hk H1 locs1 ls hP2 hD2 hS1 ⟨hwf, hw.2⟩ hl
theorem T_lmp (C : Cx X (YL cy adc adm E G A nL Q) cc own ret Rm (tyL cy)) (As rest : List Value) {q : Nat} {f : Option Int} {k : Int → Option O} (ct : ∀ o, f = some o → wfm σ.2.1 → CtI X.2.1 y ccy maxL rety rm (wlm (cy 0) adm) wfm G (tym (cy 0)) (.ref q :: As) σ.2.1 σ.2.1 o) (hlink : Cond.methodLink own idx y ∈ lwG) (hm : cmV y ccy maxL rety n) (hrc : va_Rc (wlm (cy 0) adm σ.2.1) q y.cls) (hn : As.length = n) (hst : st = As.reverse ++ .ref q :: rest) (hcat : (rest.map fun v => v.category).sum ≤ 8) (hR : rmFit rm Rm maxL a b) {a' b' : Nat} (hab : a + rm.cells = a' ∧ b + rm.slots = b')
    (d : decode cc pc = .ok (.invokevirtual idx, 3)) (K : ∀ o : Int, rng o ∧ nar rety o → T X (YL cy adc adm E G A nL Q) kp a' b' (pc + 3) L (vi o :: rest) σ (k o)) : T X (YL cy adc adm E G A nL Q) kp a b pc L st σ (f.bind k) := fun w h hk => by
  obtain ⟨o, ho, h2⟩ := Option.bind_eq_some_iff.mp h
  intro H locs ls hP hD hS hw hl
  obtain ⟨hx1, hb, hml, hown, hts, hK, hA, -, hRm, -⟩ := C
  obtain ⟨m1, m2, m3, m4, m5⟩ := hm
  obtain ⟨⟨r1, r2⟩, r3, r4⟩ := hR
  obtain ⟨rfl, rfl⟩ := hab
  have hP0 := va_P_perm (wlL_m (σ := σ)) hP
  have hD0 := va_D_perm (wlL_m (σ := σ)) hD
  have hPc := va_P_left hP0
  have hDc := va_D_left hD0
  have hKc := tyL_m hK
  have hF := callFree hA hDc hS
  obtain ⟨q0, ci, fs, T0, N0, e1, e2⟩ := hrc
  subst hst
  refine va_calli (va_runV (As := As) (rest := rest) ⟨hx1, hb, hml, hown, hts⟩ (ct o ho hw.2.1 H.size) ⟨callB_of n hts (lwG_good m1) rfl rfl rfl (hts _ m2) (hts _ hlink) m3 (by rw [hRm]; exact ⟨r1, r2⟩), hts _ m4, hts _ m5⟩ ⟨preJ_blind, va_recv hKc hPc e2 e1, fun U hU hW => ⟨rfl, by rw [hU], by rw [hU]; exact hPc, va_K.moved hW.alike hKc, hDc.weaken (fun _ _ _ _ => trivial)⟩⟩ rfl hn hl.1 rfl (lv_room hcat) d (by rw [hRm]; exact ⟨r3, r4⟩)) hS (fun q _ h => hF q h) hF (fun r u t H1 locs1 ht hvm hw1 hB hz hk9 hS1 => ?_)
  obtain ⟨rfl, hr, hwf⟩ := hw1
  obtain ⟨hP1, hD1⟩ := hB
  rw [ht] at hP1
  obtain ⟨hP2, hD2⟩ := va_frame hP0 hD0 hP1 hD1 hk9 hF
  have hpm := (wlL_m (cy := cy) (adc := adc) (adm := adm) (E := E) (σ := σ)).symm
  exact K o hr w h2 hk H1 locs1 ls (va_P_perm hpm hP2) (va_D_perm hpm hD2) hS1 ⟨hw.1, hwf, hw.2.2⟩ hl
/-- the script -/
def SX (X : vjX) (A : Nat → Prop) (q len : Nat) (xs : Nat → Int32) : Prop := va_X q len xs X.2.2.2.2.1 X.2.2.2.2.1.heap ∧ q < X.2.2.2.2.1.heap.size ∧ ¬ A q
theorem T_sld {q len : Nat} {xs : Nat → Int32} (sx : SX X A q len xs) (C : Cx X (YL cy adc adm E G A nL Q) cc own ret Rm (tyL cy)) (hlen : len ≤ 2147483647) {i : Int} (hi : 0 ≤ i ∧ i < len) (d : decode cc pc = .ok (.iaload, 1)) (K : T X (YL cy adc adm E G A nL Q) kp a b (pc + 1) L (vi (scv xs i) :: st) σ r) : T X (YL cy adc adm E G A nL Q) kp a b pc L (vi i :: .ref q :: st) σ r := fun o h hk H locs ls hP hD hS hw hl => by
  refine va_sld C.1 C.2.1 sx.1 sx.2.1 sx.2.2 hS (ix_in hi hlen) d ?_
  rw [ix_nat hi hlen]
  have e : xs i.toNat = Int32.ofInt (scv xs i) := by unfold scv; simp
  rw [e]
  exact K o h hk H locs ls hP hD hS hw hl
theorem T_slen {q len : Nat} {xs : Nat → Int32} (sx : SX X A q len xs) (C : Cx X (YL cy adc adm E G A nL Q) cc own ret Rm (tyL cy)) (d : decode cc pc = .ok (.arraylength, 1)) (K : T X (YL cy adc adm E G A nL Q) kp a b (pc + 1) L (vi (len : Int) :: st) σ r) : T X (YL cy adc adm E G A nL Q) kp a b pc L (.ref q :: st) σ r := fun o h hk H locs ls hP hD hS hw hl =>
  va_slen C.1 C.2.1 sx.1 sx.2.1 sx.2.2 hS d (K o h hk H locs ls hP hD hS hw hl)
theorem T_dstore (C : Cx X (YL cy adc adm E G A nL Q) cc own ret Rm (tyL cy)) {i : Nat} {x : UInt64} (d : decode cc pc = .ok (.dstore i, 2)) (hn : i + 1 < nL) (hL : (i, Value.double x) :: L.filter (fun q => !(q.1 == i) && (!(q.1 == i + 1) && !(q.1 + 1 == i && q.2.category == 2))) = L') (K : T X (YL cy adc adm E G A nL Q) kp a b (pc + 2) L' st σ r) : T X (YL cy adc adm E G A nL Q) kp a b pc L (.double x :: st) σ r := fun o h hk H locs ls hP hD hS hw hl =>
  lv_dstore C.1 C.2.1 d hl hn hL (fun ls' hl' => K o h hk H locs ls' hP hD hS hw hl')
theorem T_dload (C : Cx X (YL cy adc adm E G A nL Q) cc own ret Rm (tyL cy)) {i : Nat} {x : UInt64} (d : decode cc pc = .ok (.dload i, 2)) (j : Nat) (h : L[j]? = some (i, .double x)) (K : T X (YL cy adc adm E G A nL Q) kp a b (pc + 2) L (.double x :: st) σ r) : T X (YL cy adc adm E G A nL Q) kp a b pc L st σ r := fun o h9 hk H locs ls hP hD hS hw hl =>
  lv_dload C.1 C.2.1 d (lv_at hl j h) (K o h9 hk H locs ls hP hD hS hw hl)
theorem T_fstore (C : Cx X (YL cy adc adm E G A nL Q) cc own ret Rm (tyL cy)) {i : Nat} {x : UInt32} (d : decode cc pc = .ok (.fstore i, 2)) (hn : i < nL) (hL : (i, Value.float x) :: L.filter (fun q => !(q.1 == i) && !(q.1 + 1 == i && q.2.category == 2)) = L') (K : T X (YL cy adc adm E G A nL Q) kp a b (pc + 2) L' st σ r) : T X (YL cy adc adm E G A nL Q) kp a b pc L (.float x :: st) σ r := fun o h hk H locs ls hP hD hS hw hl =>
  lv_fstore C.1 C.2.1 d hl hn hL (fun ls' hl' => K o h hk H locs ls' hP hD hS hw hl')
theorem T_fload (C : Cx X (YL cy adc adm E G A nL Q) cc own ret Rm (tyL cy)) {i : Nat} {x : UInt32} (d : decode cc pc = .ok (.fload i, 2)) (j : Nat) (h : L[j]? = some (i, .float x)) (K : T X (YL cy adc adm E G A nL Q) kp a b (pc + 2) L (.float x :: st) σ r) : T X (YL cy adc adm E G A nL Q) kp a b pc L st σ r := fun o h9 hk H locs ls hP hD hS hw hl =>
  lv_fload C.1 C.2.1 d (lv_at hl j h) (K o h9 hk H locs ls hP hD hS hw hl)
theorem T_fcmp (C : Cx X (YL cy adc adm E G A nL Q) cc own ret Rm (tyL cy)) {x y : UInt32} {op : CmpOp} (d : decode cc pc = .ok (.fcmp op, 1)) (K : T X (YL cy adc adm E G A nL Q) kp a b (pc + 1) L (vi (fcm x y op) :: st) σ r) : T X (YL cy adc adm E G A nL Q) kp a b pc L (.float y :: .float x :: st) σ r := fun o h hk H locs ls hP hD hS hw hl => lv_fcmp C.1 C.2.1 d (by
  have e : Int32.ofInt (fcm x y op) = Op.cmpValue (FP.fcmp x y) op := by unfold fcm; simp
  rw [← e]; exact K o h hk H locs ls hP hD hS hw hl)
end LW
