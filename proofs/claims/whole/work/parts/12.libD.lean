section CZALLS
variable {S O : Type} {Z : vZ} {E : Nat → Nat → Nat} {X : vjX} {Y : vjY S} {kp : O → Prop} {cc : ByteArray} {own : String} {ret : Option FieldType} {Rm : Room} {tys : List (ClassId × FieldType)} {a b pc : Nat} {L L' : List (Nat × Value)} {st : List Value} {σ : S}
variable {y : MethodName} {ccy : ByteArray} {maxL : Nat} {rety : Option FieldType} {rm : Room} {idx n : Nat}
theorem J_czVi (zk : Zok Z) (hZ : Zx Z X Y) (C : Cx X Y cc own ret Rm tys) (As rest : List Value) (o : S × Int) {q : Nat} (ct : Y.2.1 σ → CzI Z X.2.1 y ccy maxL rety rm Y.1 Y.2.1 Y.2.2.1 tys (.ref q :: As) σ o.1 o.2) (hlink : Cond.methodLink own idx y ∈ lwG) (hm : cmV y ccy maxL rety n) (hrc : va_Rc (Y.1 σ) q y.cls) (hn : As.length = n) (hst : st = As.reverse ++ .ref q :: rest) (hcat : (rest.map fun v => v.category).sum ≤ 8) (hR : rmFit rm Rm maxL a b) {a' b' : Nat} (hab : a + rm.cells = a' ∧ b + rm.slots = b')
    (d : decode cc pc = .ok (.invokevirtual idx, 3)) (K : rng o.2 ∧ nar rety o.2 → J X Y a' b' (pc + 3) L (vi o.2 :: rest) o.1) : J X Y a b pc L st σ := by
  intro H locs ls hP hD hS hw hl
  obtain ⟨hx, hb, hml, hown, hts, hK, hA, -, hRm, -⟩ := C
  obtain ⟨m1, m2, m3, m4, m5⟩ := hm
  obtain ⟨⟨r1, r2⟩, r3, r4⟩ := hR
  obtain ⟨rfl, rfl⟩ := hab
  have hF := callFree hA hD hS
  obtain ⟨q0, ci, fs, T0, N0, e1, e2⟩ := hrc
  subst hst
  refine va_calli (va_runV (As := As) (rest := rest) ⟨hx, hb, hml, hown, hts⟩ (ct hw H.size) ⟨callB_of n hts (lwG_good m1) rfl rfl rfl (hts _ m2) (hts _ hlink) m3 (by rw [hRm]; exact ⟨r1, r2⟩), hts _ m4, hts _ m5⟩ ⟨preZ_blind zk, va_recv hK hP e2 e1, fun U hU hW => ⟨rfl, ⟨by rw [hU], by rw [hU]; exact hP, va_K.moved hW.alike hK, hD.weaken (fun _ _ _ _ => trivial)⟩, by rw [hU]; exact zk.2.2 _ _ _ _ (zk.1 _ _ _ _ hW (zk.2.1 _ _ _ _ hZ hS.2.1)) hF⟩⟩ rfl hn hl.1 rfl (lv_room hcat) d (by rw [hRm]; exact ⟨r3, r4⟩)) hS (fun q _ h => hF q h) hF (fun r u t H1 locs1 ht hvm hw1 hB hz hk hS1 => ?_)
  obtain ⟨rfl, hr, hwf⟩ := hw1
  obtain ⟨hP1, hD1⟩ := hB
  rw [ht] at hP1
  exact K hr H1 locs1 ls hP1 (hD1.weaken (fun _ q _ h => hF q.1 h)) hS1 hwf hl
theorem J_czSi (zk : Zok Z) (hZ : Zx Z X Y) (C : Cx X Y cc own ret Rm tys) (As rest : List Value) (o : S × Int) (ct : Y.2.1 σ → CzI Z X.2.1 y ccy maxL rety rm Y.1 Y.2.1 Y.2.2.1 tys As σ o.1 o.2) (hlink : Cond.methodLink own idx y ∈ lwG) (hm : cmS y ccy maxL rety n) (hn : As.length = n) (hst : st = As.reverse ++ rest) (hcat : (rest.map fun v => v.category).sum ≤ 8) (hR : rmFit rm Rm maxL a b) {a' b' : Nat} (hab : a + rm.cells = a' ∧ b + rm.slots = b')
    (d : decode cc pc = .ok (.invokestatic idx, 3)) (K : rng o.2 ∧ nar rety o.2 → J X Y a' b' (pc + 3) L (vi o.2 :: rest) o.1) : J X Y a b pc L st σ := by
  intro H locs ls hP hD hS hw hl
  obtain ⟨hx, hb, hml, hown, hts, hK, hA, -, hRm, -⟩ := C
  obtain ⟨m1, m2, m3, m4⟩ := hm
  obtain ⟨⟨r1, r2⟩, r3, r4⟩ := hR
  obtain ⟨rfl, rfl⟩ := hab
  have hF := callFree hA hD hS
  subst hst
  refine va_calli (va_runS (As := As) (rest := rest) ⟨hx, hb, hml, hown, hts⟩ (ct hw H.size) ⟨callB_of n hts (lwG_good m1) rfl rfl rfl (hts _ m2) (hts _ hlink) m3 (by rw [hRm]; exact ⟨r1, r2⟩), hts _ m4⟩ ⟨preZ_blind zk, fun U hU hW => ⟨rfl, ⟨by rw [hU], by rw [hU]; exact hP, va_K.moved hW.alike hK, hD.weaken (fun _ _ _ _ => trivial)⟩, by rw [hU]; exact zk.2.2 _ _ _ _ (zk.1 _ _ _ _ hW (zk.2.1 _ _ _ _ hZ hS.2.1)) hF⟩⟩ rfl hn hl.1 rfl (lv_room hcat) d (by rw [hRm]; exact ⟨r3, r4⟩)) hS (fun q _ h => hF q h) hF (fun r u t H1 locs1 ht hvm hw1 hB hz hk hS1 => ?_)
  obtain ⟨rfl, hr, hwf⟩ := hw1
  obtain ⟨hP1, hD1⟩ := hB
  rw [ht] at hP1
  exact K hr H1 locs1 ls hP1 (hD1.weaken (fun _ q _ h => hF q.1 h)) hS1 hwf hl
theorem J_czVv (zk : Zok Z) (hZ : Zx Z X Y) (C : Cx X Y cc own ret Rm tys) (As rest : List Value) (o : S) {q : Nat} (ct : Y.2.1 σ → CzV Z X.2.1 y ccy maxL rm Y.1 Y.2.1 Y.2.2.1 tys (.ref q :: As) σ o) (hlink : Cond.methodLink own idx y ∈ lwG) (hm : cmV y ccy maxL none n) (hrc : va_Rc (Y.1 σ) q y.cls) (hn : As.length = n) (hst : st = As.reverse ++ .ref q :: rest) (hcat : (rest.map fun v => v.category).sum ≤ 8) (hR : rmFit rm Rm maxL a b) {a' b' : Nat} (hab : a + rm.cells = a' ∧ b + rm.slots = b')
    (d : decode cc pc = .ok (.invokevirtual idx, 3)) (K : J X Y a' b' (pc + 3) L rest o) : J X Y a b pc L st σ := by
  intro H locs ls hP hD hS hw hl
  obtain ⟨hx, hb, hml, hown, hts, hK, hA, -, hRm, -⟩ := C
  obtain ⟨m1, m2, m3, m4, m5⟩ := hm
  obtain ⟨⟨r1, r2⟩, r3, r4⟩ := hR
  obtain ⟨rfl, rfl⟩ := hab
  have hF := callFree hA hD hS
  obtain ⟨q0, ci, fs, T0, N0, e1, e2⟩ := hrc
  subst hst
  refine va_callv (va_runV (As := As) (rest := rest) ⟨hx, hb, hml, hown, hts⟩ (ct hw H.size) ⟨callB_of n hts (lwG_good m1) rfl rfl rfl (hts _ m2) (hts _ hlink) m3 (by rw [hRm]; exact ⟨r1, r2⟩), hts _ m4, hts _ m5⟩ ⟨preZ_blind zk, va_recv hK hP e2 e1, fun U hU hW => ⟨rfl, ⟨by rw [hU], by rw [hU]; exact hP, va_K.moved hW.alike hK, hD.weaken (fun _ _ _ _ => trivial)⟩, by rw [hU]; exact zk.2.2 _ _ _ _ (zk.1 _ _ _ _ hW (zk.2.1 _ _ _ _ hZ hS.2.1)) hF⟩⟩ rfl hn hl.1 rfl (lv_room hcat) d (by rw [hRm]; exact ⟨r3, r4⟩)) hS (fun q _ h => hF q h) hF (fun u t H1 locs1 ht hvm hwf hB hz hk hS1 => ?_)
  obtain ⟨hP1, hD1⟩ := hB
  rw [ht] at hP1
  exact K H1 locs1 ls hP1 (hD1.weaken (fun _ q _ h => hF q.1 h)) hS1 hwf hl
theorem J_czSv (zk : Zok Z) (hZ : Zx Z X Y) (C : Cx X Y cc own ret Rm tys) (As rest : List Value) (o : S) (ct : Y.2.1 σ → CzV Z X.2.1 y ccy maxL rm Y.1 Y.2.1 Y.2.2.1 tys As σ o) (hlink : Cond.methodLink own idx y ∈ lwG) (hm : cmS y ccy maxL none n) (hn : As.length = n) (hst : st = As.reverse ++ rest) (hcat : (rest.map fun v => v.category).sum ≤ 8) (hR : rmFit rm Rm maxL a b) {a' b' : Nat} (hab : a + rm.cells = a' ∧ b + rm.slots = b')
    (d : decode cc pc = .ok (.invokestatic idx, 3)) (K : J X Y a' b' (pc + 3) L rest o) : J X Y a b pc L st σ := by
  intro H locs ls hP hD hS hw hl
  obtain ⟨hx, hb, hml, hown, hts, hK, hA, -, hRm, -⟩ := C
  obtain ⟨m1, m2, m3, m4⟩ := hm
  obtain ⟨⟨r1, r2⟩, r3, r4⟩ := hR
  obtain ⟨rfl, rfl⟩ := hab
  have hF := callFree hA hD hS
  subst hst
  refine va_callv (va_runS (As := As) (rest := rest) ⟨hx, hb, hml, hown, hts⟩ (ct hw H.size) ⟨callB_of n hts (lwG_good m1) rfl rfl rfl (hts _ m2) (hts _ hlink) m3 (by rw [hRm]; exact ⟨r1, r2⟩), hts _ m4⟩ ⟨preZ_blind zk, fun U hU hW => ⟨rfl, ⟨by rw [hU], by rw [hU]; exact hP, va_K.moved hW.alike hK, hD.weaken (fun _ _ _ _ => trivial)⟩, by rw [hU]; exact zk.2.2 _ _ _ _ (zk.1 _ _ _ _ hW (zk.2.1 _ _ _ _ hZ hS.2.1)) hF⟩⟩ rfl hn hl.1 rfl (lv_room hcat) d (by rw [hRm]; exact ⟨r3, r4⟩)) hS (fun q _ h => hF q h) hF (fun u t H1 locs1 ht hvm hwf hB hz hk hS1 => ?_)
  obtain ⟨hP1, hD1⟩ := hB
  rw [ht] at hP1
  exact K H1 locs1 ls hP1 (hD1.weaken (fun _ q _ h => hF q.1 h)) hS1 hwf hl
theorem T_czVi (zk : Zok Z) (hZ : Zx Z X Y) (C : Cx X Y cc own ret Rm tys) (As rest : List Value) {q : Nat} {f : Option (S × Int)} {k : S × Int → Option O} (ct : ∀ o, f = some o → Y.2.1 σ → CzI Z X.2.1 y ccy maxL rety rm Y.1 Y.2.1 Y.2.2.1 tys (.ref q :: As) σ o.1 o.2) (hlink : Cond.methodLink own idx y ∈ lwG) (hm : cmV y ccy maxL rety n) (hrc : va_Rc (Y.1 σ) q y.cls) (hn : As.length = n) (hst : st = As.reverse ++ .ref q :: rest) (hcat : (rest.map fun v => v.category).sum ≤ 8) (hR : rmFit rm Rm maxL a b) {a' b' : Nat} (hab : a + rm.cells = a' ∧ b + rm.slots = b')
    (d : decode cc pc = .ok (.invokevirtual idx, 3)) (K : ∀ o : S × Int, rng o.2 ∧ nar rety o.2 → T X Y kp a' b' (pc + 3) L (vi o.2 :: rest) o.1 (k o)) : T X Y kp a b pc L st σ (f.bind k) := fun w h hk => by
  obtain ⟨o, ho, h2⟩ := Option.bind_eq_some_iff.mp h
  exact J_czVi zk hZ C As rest o (ct o ho) hlink hm hrc hn hst hcat hR hab d (fun hr => K o hr w h2 hk)
theorem T_czVip (zk : Zok Z) (hZ : Zx Z X Y) (C : Cx X Y cc own ret Rm tys) (As rest : List Value) {q : Nat} {f : Option Int} {k : Int → Option O} (ct : ∀ v, f = some v → Y.2.1 σ → CzI Z X.2.1 y ccy maxL rety rm Y.1 Y.2.1 Y.2.2.1 tys (.ref q :: As) σ σ v) (hlink : Cond.methodLink own idx y ∈ lwG) (hm : cmV y ccy maxL rety n) (hrc : va_Rc (Y.1 σ) q y.cls) (hn : As.length = n) (hst : st = As.reverse ++ .ref q :: rest) (hcat : (rest.map fun v => v.category).sum ≤ 8) (hR : rmFit rm Rm maxL a b) {a' b' : Nat} (hab : a + rm.cells = a' ∧ b + rm.slots = b')
    (d : decode cc pc = .ok (.invokevirtual idx, 3)) (K : ∀ v : Int, rng v ∧ nar rety v → T X Y kp a' b' (pc + 3) L (vi v :: rest) σ (k v)) : T X Y kp a b pc L st σ (f.bind k) := fun w h hk => by
  obtain ⟨v, hv, h2⟩ := Option.bind_eq_some_iff.mp h
  exact J_czVi zk hZ C As rest (σ, v) (ct v hv) hlink hm hrc hn hst hcat hR hab d (fun hr => K v hr w h2 hk)
theorem T_czSi (zk : Zok Z) (hZ : Zx Z X Y) (C : Cx X Y cc own ret Rm tys) (As rest : List Value) {f : Option (S × Int)} {k : S × Int → Option O} (ct : ∀ o, f = some o → Y.2.1 σ → CzI Z X.2.1 y ccy maxL rety rm Y.1 Y.2.1 Y.2.2.1 tys As σ o.1 o.2) (hlink : Cond.methodLink own idx y ∈ lwG) (hm : cmS y ccy maxL rety n) (hn : As.length = n) (hst : st = As.reverse ++ rest) (hcat : (rest.map fun v => v.category).sum ≤ 8) (hR : rmFit rm Rm maxL a b) {a' b' : Nat} (hab : a + rm.cells = a' ∧ b + rm.slots = b')
    (d : decode cc pc = .ok (.invokestatic idx, 3)) (K : ∀ o : S × Int, rng o.2 ∧ nar rety o.2 → T X Y kp a' b' (pc + 3) L (vi o.2 :: rest) o.1 (k o)) : T X Y kp a b pc L st σ (f.bind k) := fun w h hk => by
  obtain ⟨o, ho, h2⟩ := Option.bind_eq_some_iff.mp h
  exact J_czSi zk hZ C As rest o (ct o ho) hlink hm hn hst hcat hR hab d (fun hr => K o hr w h2 hk)
theorem T_czSip (zk : Zok Z) (hZ : Zx Z X Y) (C : Cx X Y cc own ret Rm tys) (As rest : List Value) {f : Option Int} {k : Int → Option O} (ct : ∀ v, f = some v → Y.2.1 σ → CzI Z X.2.1 y ccy maxL rety rm Y.1 Y.2.1 Y.2.2.1 tys As σ σ v) (hlink : Cond.methodLink own idx y ∈ lwG) (hm : cmS y ccy maxL rety n) (hn : As.length = n) (hst : st = As.reverse ++ rest) (hcat : (rest.map fun v => v.category).sum ≤ 8) (hR : rmFit rm Rm maxL a b) {a' b' : Nat} (hab : a + rm.cells = a' ∧ b + rm.slots = b')
    (d : decode cc pc = .ok (.invokestatic idx, 3)) (K : ∀ v : Int, rng v ∧ nar rety v → T X Y kp a' b' (pc + 3) L (vi v :: rest) σ (k v)) : T X Y kp a b pc L st σ (f.bind k) := fun w h hk => by
  obtain ⟨v, hv, h2⟩ := Option.bind_eq_some_iff.mp h
  exact J_czSi zk hZ C As rest (σ, v) (ct v hv) hlink hm hn hst hcat hR hab d (fun hr => K v hr w h2 hk)
theorem T_czVv (zk : Zok Z) (hZ : Zx Z X Y) (C : Cx X Y cc own ret Rm tys) (As rest : List Value) {q : Nat} {f : Option S} {k : S → Option O} (ct : ∀ o, f = some o → Y.2.1 σ → CzV Z X.2.1 y ccy maxL rm Y.1 Y.2.1 Y.2.2.1 tys (.ref q :: As) σ o) (hlink : Cond.methodLink own idx y ∈ lwG) (hm : cmV y ccy maxL none n) (hrc : va_Rc (Y.1 σ) q y.cls) (hn : As.length = n) (hst : st = As.reverse ++ .ref q :: rest) (hcat : (rest.map fun v => v.category).sum ≤ 8) (hR : rmFit rm Rm maxL a b) {a' b' : Nat} (hab : a + rm.cells = a' ∧ b + rm.slots = b')
    (d : decode cc pc = .ok (.invokevirtual idx, 3)) (K : ∀ o : S, T X Y kp a' b' (pc + 3) L rest o (k o)) : T X Y kp a b pc L st σ (f.bind k) := fun w h hk => by
  obtain ⟨o, ho, h2⟩ := Option.bind_eq_some_iff.mp h
  exact J_czVv zk hZ C As rest o (ct o ho) hlink hm hrc hn hst hcat hR hab d (K o w h2 hk)
theorem T_czSv (zk : Zok Z) (hZ : Zx Z X Y) (C : Cx X Y cc own ret Rm tys) (As rest : List Value) {f : Option S} {k : S → Option O} (ct : ∀ o, f = some o → Y.2.1 σ → CzV Z X.2.1 y ccy maxL rm Y.1 Y.2.1 Y.2.2.1 tys As σ o) (hlink : Cond.methodLink own idx y ∈ lwG) (hm : cmS y ccy maxL none n) (hn : As.length = n) (hst : st = As.reverse ++ rest) (hcat : (rest.map fun v => v.category).sum ≤ 8) (hR : rmFit rm Rm maxL a b) {a' b' : Nat} (hab : a + rm.cells = a' ∧ b + rm.slots = b')
    (d : decode cc pc = .ok (.invokestatic idx, 3)) (K : ∀ o : S, T X Y kp a' b' (pc + 3) L rest o (k o)) : T X Y kp a b pc L st σ (f.bind k) := fun w h hk => by
  obtain ⟨o, ho, h2⟩ := Option.bind_eq_some_iff.mp h
  exact J_czSv zk hZ C As rest o (ct o ho) hlink hm hn hst hcat hR hab d (K o w h2 hk)
theorem J_czVe (zk : Zok Z) (hZ : Zx Z X Y) (C : Cx X Y cc own ret Rm tys) (As rest : List Value) {ke : Nat} {ne : Int} (o : S × Int) {q : Nat} (ct : Y.2.1 σ → CzE Z E ke ne X.2.1 y ccy maxL rety rm Y.1 Y.2.1 Y.2.2.1 tys (.ref q :: As) σ o.1 o.2) (hlink : Cond.methodLink own idx y ∈ lwG) (hm : cmV y ccy maxL rety n) (hrc : va_Rc (Y.1 σ) q y.cls) (hn : As.length = n) (hst : st = As.reverse ++ .ref q :: rest) (hcat : (rest.map fun v => v.category).sum ≤ 8) (hR : rmFit rm Rm maxL a b) {a' b' : Nat} (hab : a + rm.cells = a' ∧ b + rm.slots = b')
    (d : decode cc pc = .ok (.invokevirtual idx, 3)) (K : 0 ≤ o.2 ∧ o.2 < ne → J X Y a' b' (pc + 3) L (ve E ke o.2 :: rest) o.1) : J X Y a b pc L st σ := by
  intro H locs ls hP hD hS hw hl
  obtain ⟨hx, hb, hml, hown, hts, hK, hA, -, hRm, -⟩ := C
  obtain ⟨m1, m2, m3, m4, m5⟩ := hm
  obtain ⟨⟨r1, r2⟩, r3, r4⟩ := hR
  obtain ⟨rfl, rfl⟩ := hab
  have hF := callFree hA hD hS
  obtain ⟨q0, ci, fs, T0, N0, e1, e2⟩ := hrc
  subst hst
  refine va_callq (va_runV (As := As) (rest := rest) ⟨hx, hb, hml, hown, hts⟩ (ct hw H.size) ⟨callB_of n hts (lwG_good m1) rfl rfl rfl (hts _ m2) (hts _ hlink) m3 (by rw [hRm]; exact ⟨r1, r2⟩), hts _ m4, hts _ m5⟩ ⟨preZ_blind zk, va_recv hK hP e2 e1, fun U hU hW => ⟨rfl, ⟨by rw [hU], by rw [hU]; exact hP, va_K.moved hW.alike hK, hD.weaken (fun _ _ _ _ => trivial)⟩, by rw [hU]; exact zk.2.2 _ _ _ _ (zk.1 _ _ _ _ hW (zk.2.1 _ _ _ _ hZ hS.2.1)) hF⟩⟩ rfl hn hl.1 rfl (lv_room hcat) d (by rw [hRm]; exact ⟨r3, r4⟩)) hS (fun q _ h => hF q h) hF (fun r u t H1 locs1 ht hvm hw1 hB hz hk hS1 => ?_)
  obtain ⟨rfl, hr, hwf⟩ := hw1
  obtain ⟨hP1, hD1⟩ := hB
  rw [ht] at hP1
  exact K hr H1 locs1 ls hP1 (hD1.weaken (fun _ q _ h => hF q.1 h)) hS1 hwf hl
theorem T_czVep (zk : Zok Z) (hZ : Zx Z X Y) (C : Cx X Y cc own ret Rm tys) (As rest : List Value) {q : Nat} {ke : Nat} {ne : Int} {f : Option Int} {k : Int → Option O} (ct : ∀ v, f = some v → Y.2.1 σ → CzE Z E ke ne X.2.1 y ccy maxL rety rm Y.1 Y.2.1 Y.2.2.1 tys (.ref q :: As) σ σ v) (hlink : Cond.methodLink own idx y ∈ lwG) (hm : cmV y ccy maxL rety n) (hrc : va_Rc (Y.1 σ) q y.cls) (hn : As.length = n) (hst : st = As.reverse ++ .ref q :: rest) (hcat : (rest.map fun v => v.category).sum ≤ 8) (hR : rmFit rm Rm maxL a b) {a' b' : Nat} (hab : a + rm.cells = a' ∧ b + rm.slots = b')
    (d : decode cc pc = .ok (.invokevirtual idx, 3)) (K : ∀ v : Int, 0 ≤ v ∧ v < ne → T X Y kp a' b' (pc + 3) L (ve E ke v :: rest) σ (k v)) : T X Y kp a b pc L st σ (f.bind k) := fun w h hk => by
  obtain ⟨v, hv, h2⟩ := Option.bind_eq_some_iff.mp h
  exact J_czVe zk hZ C As rest (σ, v) (ct v hv) hlink hm hrc hn hst hcat hR hab d (fun hr => K v hr w h2 hk)
theorem J_czSe (zk : Zok Z) (hZ : Zx Z X Y) (C : Cx X Y cc own ret Rm tys) (As rest : List Value) {ke : Nat} {ne : Int} (o : S × Int) (ct : Y.2.1 σ → CzE Z E ke ne X.2.1 y ccy maxL rety rm Y.1 Y.2.1 Y.2.2.1 tys As σ o.1 o.2) (hlink : Cond.methodLink own idx y ∈ lwG) (hm : cmS y ccy maxL rety n) (hn : As.length = n) (hst : st = As.reverse ++ rest) (hcat : (rest.map fun v => v.category).sum ≤ 8) (hR : rmFit rm Rm maxL a b) {a' b' : Nat} (hab : a + rm.cells = a' ∧ b + rm.slots = b')
    (d : decode cc pc = .ok (.invokestatic idx, 3)) (K : 0 ≤ o.2 ∧ o.2 < ne → J X Y a' b' (pc + 3) L (ve E ke o.2 :: rest) o.1) : J X Y a b pc L st σ := by
  intro H locs ls hP hD hS hw hl
  obtain ⟨hx, hb, hml, hown, hts, hK, hA, -, hRm, -⟩ := C
  obtain ⟨m1, m2, m3, m4⟩ := hm
  obtain ⟨⟨r1, r2⟩, r3, r4⟩ := hR
  obtain ⟨rfl, rfl⟩ := hab
  have hF := callFree hA hD hS
  subst hst
  refine va_callq (va_runS (As := As) (rest := rest) ⟨hx, hb, hml, hown, hts⟩ (ct hw H.size) ⟨callB_of n hts (lwG_good m1) rfl rfl rfl (hts _ m2) (hts _ hlink) m3 (by rw [hRm]; exact ⟨r1, r2⟩), hts _ m4⟩ ⟨preZ_blind zk, fun U hU hW => ⟨rfl, ⟨by rw [hU], by rw [hU]; exact hP, va_K.moved hW.alike hK, hD.weaken (fun _ _ _ _ => trivial)⟩, by rw [hU]; exact zk.2.2 _ _ _ _ (zk.1 _ _ _ _ hW (zk.2.1 _ _ _ _ hZ hS.2.1)) hF⟩⟩ rfl hn hl.1 rfl (lv_room hcat) d (by rw [hRm]; exact ⟨r3, r4⟩)) hS (fun q _ h => hF q h) hF (fun r u t H1 locs1 ht hvm hw1 hB hz hk hS1 => ?_)
  obtain ⟨rfl, hr, hwf⟩ := hw1
  obtain ⟨hP1, hD1⟩ := hB
  rw [ht] at hP1
  exact K hr H1 locs1 ls hP1 (hD1.weaken (fun _ q _ h => hF q.1 h)) hS1 hwf hl
theorem T_czSep (zk : Zok Z) (hZ : Zx Z X Y) (C : Cx X Y cc own ret Rm tys) (As rest : List Value) {ke : Nat} {ne : Int} {f : Option Int} {k : Int → Option O} (ct : ∀ v, f = some v → Y.2.1 σ → CzE Z E ke ne X.2.1 y ccy maxL rety rm Y.1 Y.2.1 Y.2.2.1 tys As σ σ v) (hlink : Cond.methodLink own idx y ∈ lwG) (hm : cmS y ccy maxL rety n) (hn : As.length = n) (hst : st = As.reverse ++ rest) (hcat : (rest.map fun v => v.category).sum ≤ 8) (hR : rmFit rm Rm maxL a b) {a' b' : Nat} (hab : a + rm.cells = a' ∧ b + rm.slots = b')
    (d : decode cc pc = .ok (.invokestatic idx, 3)) (K : ∀ v : Int, 0 ≤ v ∧ v < ne → T X Y kp a' b' (pc + 3) L (ve E ke v :: rest) σ (k v)) : T X Y kp a b pc L st σ (f.bind k) := fun w h hk => by
  obtain ⟨v, hv, h2⟩ := Option.bind_eq_some_iff.mp h
  exact J_czSe zk hZ C As rest (σ, v) (ct v hv) hlink hm hn hst hcat hR hab d (fun hr => K v hr w h2 hk)
theorem T_eret {ke : Nat} {ne : Int} {v : Int} (w : O) (hk : kp w → EndE E ke ne X Y cc Rm (σ, v)) (hr : 0 ≤ v ∧ v < ne) (hc : a ≤ Rm.cells ∧ b ≤ Rm.slots) (d : decode cc pc = .ok (.areturn, 1)) : T X Y kp a b pc L [ve E ke v] σ (some w) := fun o h hko => by
  cases h
  exact fun H locs ls hP hD hS hw hl => W.widen hc.1 hc.2 (hk hko pc L d hr H locs ls hP hD hS hw hl)
/-- a constant out of its class -/
theorem T_gets (zf : ZF Z E) (hZ : Zx Z X Y) {r : Option O} (C : Cx X Y cc own ret Rm tys) (i : Nat) (z : Int) (hz : z.toNat = i) (hi : i < 6) (hlink : Cond.fieldLink own idx "RingTransit$Fault" (nmF.getD i "") "LRingTransit$Fault;" ∈ lwG) (d : decode cc pc = .ok (.getstatic idx, 3)) (K : T X Y kp a b (pc + 3) L (ve E 0 z :: st) σ r) : T X Y kp a b pc L st σ r := fun o h hk H locs ls hP hD hS hw hl =>
  va_gets C.1 C.2.1 ((zf _ _ _ hZ).1 i hi).1 hS C.2.2.2.1 (C.2.2.2.2.1 _ hlink) (fun _ h9 => h9) d (by subst hz; exact K o h hk H locs ls hP hD hS hw hl)
theorem ve_inj (zf : ZF Z E) (hZ : Zx Z X Y) {x y : Int} (hx : 0 ≤ x ∧ x < 6) (hy : 0 ≤ y ∧ y < 6) : some (E 0 x.toNat) = some (E 0 y.toNat) ↔ x = y := by
  constructor
  · intro h
    have h2 := (zf _ _ _ hZ).2 x.toNat y.toNat (by show x.toNat < 6; omega) (by show y.toNat < 6; omega) (Option.some.inj h)
    omega
  · intro h; rw [h]
theorem T_acmp_eq (zf : ZF Z E) (hZ : Zx Z X Y) {r1 r2 : Option O} (C : Cx X Y cc own ret Rm tys) {x y off : Int} (tgt : Nat) (d : decode cc pc = .ok (.if_acmp .eq off, 3)) (ht : (pc : Int) + off = (tgt : Int)) (hx : 0 ≤ x ∧ x < 6) (hy : 0 ≤ y ∧ y < 6) (kt : x = y → T X Y kp a b tgt L st σ r1) (kf : ¬ x = y → T X Y kp a b (pc + 3) L st σ r2) : T X Y kp a b pc L (ve E 0 y :: ve E 0 x :: st) σ (if x = y then r1 else r2) := fun o h9 hk H locs ls hP hD hS hw hl =>
  lv_acmp_eq (rx := some (E 0 x.toNat)) (ry := some (E 0 y.toNat)) C.1 C.2.1 d ht (fun q => by have q2 := (ve_inj zf hZ hx hy).mp q; exact kt q2 o (by rw [if_pos q2] at h9; exact h9) hk H locs ls hP hD hS hw hl) (fun q => by have q2 := fun z => q ((ve_inj zf hZ hx hy).mpr z); exact kf q2 o (by rw [if_neg q2] at h9; exact h9) hk H locs ls hP hD hS hw hl)
theorem T_acmp_ne (zf : ZF Z E) (hZ : Zx Z X Y) {r1 r2 : Option O} (C : Cx X Y cc own ret Rm tys) {x y off : Int} (tgt : Nat) (d : decode cc pc = .ok (.if_acmp .ne off, 3)) (ht : (pc : Int) + off = (tgt : Int)) (hx : 0 ≤ x ∧ x < 6) (hy : 0 ≤ y ∧ y < 6) (kt : ¬ x = y → T X Y kp a b tgt L st σ r1) (kf : x = y → T X Y kp a b (pc + 3) L st σ r2) : T X Y kp a b pc L (ve E 0 y :: ve E 0 x :: st) σ (if x = y then r2 else r1) := fun o h9 hk H locs ls hP hD hS hw hl =>
  lv_acmp_ne (rx := some (E 0 x.toNat)) (ry := some (E 0 y.toNat)) C.1 C.2.1 d ht (fun q => by have q2 := fun z => q ((ve_inj zf hZ hx hy).mpr z); exact kt q2 o (by rw [if_neg q2] at h9; exact h9) hk H locs ls hP hD hS hw hl) (fun q => by have q2 := (ve_inj zf hZ hx hy).mp q; exact kf q2 o (by rw [if_pos q2] at h9; exact h9) hk H locs ls hP hD hS hw hl)
end CZALLS
