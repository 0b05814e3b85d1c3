/-! calls inside the law's world -/
theorem va_P_left {D : va_G} {cl : List vw_C} {w1 w2 : va_W} {H : Heap} (h : va_P D cl (w1 ++ w2) H) : va_P D cl w1 H := fun k q hq => h k q (by rw [List.getElem?_append_left (List.getElem?_eq_some_iff.mp hq).1]; exact hq)
theorem va_D_left {A : Nat → Prop} {w1 w2 : va_W} (h : va_D A (w1 ++ w2)) : va_D A w1 := by
  rw [va_D_iff] at *
  rw [List.map_append, List.nodup_append] at h
  exact ⟨h.1.1, fun q hq => h.2 q (List.mem_append_left _ hq)⟩
section LC
variable {O : Type} {Z : vZ} {X : vjX} {kp : O → Prop} {cc : ByteArray} {own : String} {ret : Option FieldType} {Rm : Room} {a b pc : Nat} {L L' : List (Nat × Value)} {st : List Value} {σ : SL} {cy : Nat → ClassId} {adc adm : Nat → Nat} {E : Nat → Nat → Nat} {G : va_G} {A : Nat → Prop} {nL : Nat} {Q : State → Prop}
variable {y : MethodName} {ccy : ByteArray} {maxL : Nat} {rety : Option FieldType} {rm : Room} {idx n : Nat}
theorem J_lxi (zk : Zok Z) (hZ : Zx Z X (YL cy adc adm E G A nL Q)) (C : Cx X (YL cy adc adm E G A nL Q) cc own ret Rm (tyL cy)) (As rest : List Value) (o : Sm × Nat × Int) {q : Nat} (ct : wfc σ.1 → CxI Z X.2.1 y ccy maxL rety rm (wlc cy adc E) wfc G (tyc cy) (.ref q :: As) σ.1 o) (hlink : Cond.methodLink own idx y ∈ lwG) (hm : cmV y ccy maxL rety n) (hrc : va_Rc (wlc cy adc E σ.1) q y.cls) (hn : As.length = n) (hst : st = As.reverse ++ .ref q :: rest) (hcat : (rest.map fun v => v.category).sum ≤ 8) (hR : rmFit rm Rm maxL a b) {a' b' : Nat} (hab : a + rm.cells = a' ∧ b + rm.slots = b')
    (d : decode cc pc = .ok (.invokevirtual idx, 3)) (hx : o.2.1 ≠ 0 → JX X (YL cy adc adm E G A nL Q) a' b' pc L rest (o.1, σ.2) o.2.1) (K : o.2.1 = 0 → rng o.2.2 ∧ nar rety o.2.2 → J X (YL cy adc adm E G A nL Q) a' b' (pc + 3) L (vi o.2.2 :: rest) (o.1, σ.2)) : J X (YL cy adc adm E G A nL Q) a b pc L st σ := by
  intro H locs ls hP hD hS hw hl
  obtain ⟨hx1, hb, hml, hown, hts, hK, hA, -, hRm, -⟩ := C
  obtain ⟨m1, m2, m3, m4, m5⟩ := hm
  obtain ⟨⟨r1, r2⟩, r3, r4⟩ := hR
  obtain ⟨rfl, rfl⟩ := hab
  have hPc := va_P_left (w1 := wlc cy adc E σ.1) hP
  have hDc := va_D_left (w1 := wlc cy adc E σ.1) hD
  have hKc := tyL_c hK
  have hF := callFree hA hDc hS
  obtain ⟨q0, ci, fs, T0, N0, e1, e2⟩ := hrc
  subst hst
  refine vx_calli (vx_runV (As := As) (rest := rest) ⟨hx1, hb, hml, hown, hts⟩ (ct hw.1 H.size) ⟨callB_of n hts (lwG_good m1) rfl rfl rfl (hts _ m2) (hts _ hlink) m3 (by rw [hRm]; exact ⟨r1, r2⟩), hts _ m4, hts _ m5⟩ ⟨preZ_blind zk, va_recv hKc hPc e2 e1, fun U hU hW => ⟨rfl, ⟨by rw [hU], by rw [hU]; exact hPc, va_K.moved hW.alike hKc, hDc.weaken (fun _ _ _ _ => trivial)⟩, by rw [hU]; exact zk.2.2 _ _ _ _ (zk.1 _ _ _ _ hW (zk.2.1 _ _ _ _ hZ hS.2.1)) hF⟩⟩ rfl hn hl.1 rfl (lv_room hcat) d (by rw [hRm]; exact ⟨r3, r4⟩)) hS (fun q _ h => hF q h) hF (fun q _ h => hF q h) (fun Ex ce q9 u t H1 locs1 ht hvm hpx hB hz hk hS1 hq9 hv9 hc9 => ?_) (fun r u t H1 locs1 ht hvm hw1 hB hz hk hS1 => ?_)
  · obtain ⟨hx0, hwf⟩ := hpx
    obtain ⟨rfl, hP1, hD1⟩ := hB
    rw [ht] at hP1
    obtain ⟨hP2, hD2⟩ := va_frame hP hD hP1 hD1 hk hF
    exact hx hx0 H1 locs1 ls q9 ce hP2 hD2 hS1 ⟨hwf, hw.2⟩ hl hq9 hv9 hc9
  · obtain ⟨h0, rfl, hr, hwf⟩ := hw1
    obtain ⟨hP1, hD1⟩ := hB
    rw [ht] at hP1
    obtain ⟨hP2, hD2⟩ := va_frame hP hD hP1 hD1 hk hF
    exact K h0 hr H1 locs1 ls hP2 hD2 hS1 ⟨hwf, hw.2⟩ hl
theorem T_lxi (zk : Zok Z) (hZ : Zx Z X (YL cy adc adm E G A nL Q)) (C : Cx X (YL cy adc adm E G A nL Q) cc own ret Rm (tyL cy)) (As rest : List Value) {q : Nat} {f : Option (Sm × Nat × Int)} {k kx : Sm × Nat × Int → Option O} (ct : ∀ o, f = some o → wfc σ.1 → CxI Z X.2.1 y ccy maxL rety rm (wlc cy adc E) wfc G (tyc cy) (.ref q :: As) σ.1 o) (hlink : Cond.methodLink own idx y ∈ lwG) (hm : cmV y ccy maxL rety n) (hrc : va_Rc (wlc cy adc E σ.1) q y.cls) (hn : As.length = n) (hst : st = As.reverse ++ .ref q :: rest) (hcat : (rest.map fun v => v.category).sum ≤ 8) (hR : rmFit rm Rm maxL a b) {a' b' : Nat} (hab : a + rm.cells = a' ∧ b + rm.slots = b')
    (d : decode cc pc = .ok (.invokevirtual idx, 3)) (KX : ∀ o, TX X (YL cy adc adm E G A nL Q) kp a' b' pc L rest (o.1, σ.2) o.2.1 (kx o)) (K : ∀ o, rng o.2.2 ∧ nar rety o.2.2 → T X (YL cy adc adm E G A nL Q) kp a' b' (pc + 3) L (vi o.2.2 :: rest) (o.1, σ.2) (k o)) : T X (YL cy adc adm E G A nL Q) kp a b pc L st σ (f.bind fun o => if o.2.1 = 0 then k o else kx o) := fun w h hk => by
  obtain ⟨o, ho, h2⟩ := Option.bind_eq_some_iff.mp h
  refine J_lxi zk hZ C As rest o (ct o ho) hlink hm hrc hn hst hcat hR hab d (fun h0 => ?_) (fun h0 hr => ?_)
  · rw [if_neg h0] at h2; exact KX o w h2 hk
  · rw [if_pos h0] at h2; exact K o hr w h2 hk
theorem J_lxd (zk : Zok Z) (hZ : Zx Z X (YL cy adc adm E G A nL Q)) (C : Cx X (YL cy adc adm E G A nL Q) cc own ret Rm (tyL cy)) (As rest : List Value) (o : Sm × Nat × UInt64) {q : Nat} (ct : wfc σ.1 → CxD Z X.2.1 y ccy maxL (some .double) rm (wlc cy adc E) wfc G (tyc cy) (.ref q :: As) σ.1 o) (hlink : Cond.methodLink own idx y ∈ lwG) (hm : cmV y ccy maxL (some .double) n) (hrc : va_Rc (wlc cy adc E σ.1) q y.cls) (hn : As.length = n) (hst : st = As.reverse ++ .ref q :: rest) (hcat : (rest.map fun v => v.category).sum ≤ 8) (hR : rmFit rm Rm maxL a b) {a' b' : Nat} (hab : a + rm.cells = a' ∧ b + rm.slots = b')
    (d : decode cc pc = .ok (.invokevirtual idx, 3)) (hx : o.2.1 ≠ 0 → JX X (YL cy adc adm E G A nL Q) a' b' pc L rest (o.1, σ.2) o.2.1) (K : o.2.1 = 0 → J X (YL cy adc adm E G A nL Q) a' b' (pc + 3) L (.double o.2.2 :: rest) (o.1, σ.2)) : J X (YL cy adc adm E G A nL Q) a b pc L st σ := by
  intro H locs ls hP hD hS hw hl
  obtain ⟨hx1, hb, hml, hown, hts, hK, hA, -, hRm, -⟩ := C
  obtain ⟨m1, m2, m3, m4, m5⟩ := hm
  obtain ⟨⟨r1, r2⟩, r3, r4⟩ := hR
  obtain ⟨rfl, rfl⟩ := hab
  have hPc := va_P_left (w1 := wlc cy adc E σ.1) hP
  have hDc := va_D_left (w1 := wlc cy adc E σ.1) hD
  have hKc := tyL_c hK
  have hF := callFree hA hDc hS
  obtain ⟨q0, ci, fs, T0, N0, e1, e2⟩ := hrc
  subst hst
  refine vx_calld (vx_runV (As := As) (rest := rest) ⟨hx1, hb, hml, hown, hts⟩ (ct hw.1 H.size) ⟨callB_of n hts (lwG_good m1) rfl rfl rfl (hts _ m2) (hts _ hlink) m3 (by rw [hRm]; exact ⟨r1, r2⟩), hts _ m4, hts _ m5⟩ ⟨preZ_blind zk, va_recv hKc hPc e2 e1, fun U hU hW => ⟨rfl, ⟨by rw [hU], by rw [hU]; exact hPc, va_K.moved hW.alike hKc, hDc.weaken (fun _ _ _ _ => trivial)⟩, by rw [hU]; exact zk.2.2 _ _ _ _ (zk.1 _ _ _ _ hW (zk.2.1 _ _ _ _ hZ hS.2.1)) hF⟩⟩ rfl hn hl.1 rfl (lv_room hcat) d (by rw [hRm]; exact ⟨r3, r4⟩)) hS (fun q _ h => hF q h) hF (fun q _ h => hF q h) (fun Ex ce q9 u t H1 locs1 ht hvm hpx hB hz hk hS1 hq9 hv9 hc9 => ?_) (fun r u t H1 locs1 ht hvm hw1 hB hz hk hS1 => ?_)
  · obtain ⟨hx0, hwf⟩ := hpx
    obtain ⟨rfl, hP1, hD1⟩ := hB
    rw [ht] at hP1
    obtain ⟨hP2, hD2⟩ := va_frame hP hD hP1 hD1 hk hF
    exact hx hx0 H1 locs1 ls q9 ce hP2 hD2 hS1 ⟨hwf, hw.2⟩ hl hq9 hv9 hc9
  · obtain ⟨h0, rfl, hwf⟩ := hw1
    obtain ⟨hP1, hD1⟩ := hB
    rw [ht] at hP1
    obtain ⟨hP2, hD2⟩ := va_frame hP hD hP1 hD1 hk hF
    exact K h0 H1 locs1 ls hP2 hD2 hS1 ⟨hwf, hw.2⟩ hl
theorem T_lxd (zk : Zok Z) (hZ : Zx Z X (YL cy adc adm E G A nL Q)) (C : Cx X (YL cy adc adm E G A nL Q) cc own ret Rm (tyL cy)) (As rest : List Value) {q : Nat} {f : Option (Sm × Nat × UInt64)} {k kx : Sm × Nat × UInt64 → Option O} (ct : ∀ o, f = some o → wfc σ.1 → CxD Z X.2.1 y ccy maxL (some .double) rm (wlc cy adc E) wfc G (tyc cy) (.ref q :: As) σ.1 o) (hlink : Cond.methodLink own idx y ∈ lwG) (hm : cmV y ccy maxL (some .double) n) (hrc : va_Rc (wlc cy adc E σ.1) q y.cls) (hn : As.length = n) (hst : st = As.reverse ++ .ref q :: rest) (hcat : (rest.map fun v => v.category).sum ≤ 8) (hR : rmFit rm Rm maxL a b) {a' b' : Nat} (hab : a + rm.cells = a' ∧ b + rm.slots = b')
    (d : decode cc pc = .ok (.invokevirtual idx, 3)) (KX : ∀ o, TX X (YL cy adc adm E G A nL Q) kp a' b' pc L rest (o.1, σ.2) o.2.1 (kx o)) (K : ∀ o, T X (YL cy adc adm E G A nL Q) kp a' b' (pc + 3) L (.double o.2.2 :: rest) (o.1, σ.2) (k o)) : T X (YL cy adc adm E G A nL Q) kp a b pc L st σ (f.bind fun o => if o.2.1 = 0 then k o else kx o) := fun w h hk => by
  obtain ⟨o, ho, h2⟩ := Option.bind_eq_some_iff.mp h
  refine J_lxd zk hZ C As rest o (ct o ho) hlink hm hrc hn hst hcat hR hab d (fun h0 => ?_) (fun h0 => ?_)
  · rw [if_neg h0] at h2; exact KX o w h2 hk
  · rw [if_pos h0] at h2; exact K o w h2 hk
theorem J_lxf (zk : Zok Z) (hZ : Zx Z X (YL cy adc adm E G A nL Q)) (C : Cx X (YL cy adc adm E G A nL Q) cc own ret Rm (tyL cy)) (As rest : List Value) (o : Sm × Nat × UInt32) {q : Nat} (ct : wfc σ.1 → CxF Z X.2.1 y ccy maxL (some .float) rm (wlc cy adc E) wfc G (tyc cy) (.ref q :: As) σ.1 o) (hlink : Cond.methodLink own idx y ∈ lwG) (hm : cmV y ccy maxL (some .float) n) (hrc : va_Rc (wlc cy adc E σ.1) q y.cls) (hn : As.length = n) (hst : st = As.reverse ++ .ref q :: rest) (hcat : (rest.map fun v => v.category).sum ≤ 8) (hR : rmFit rm Rm maxL a b) {a' b' : Nat} (hab : a + rm.cells = a' ∧ b + rm.slots = b')
    (d : decode cc pc = .ok (.invokevirtual idx, 3)) (hx : o.2.1 ≠ 0 → JX X (YL cy adc adm E G A nL Q) a' b' pc L rest (o.1, σ.2) o.2.1) (K : o.2.1 = 0 → J X (YL cy adc adm E G A nL Q) a' b' (pc + 3) L (.float o.2.2 :: rest) (o.1, σ.2)) : J X (YL cy adc adm E G A nL Q) a b pc L st σ := by
  intro H locs ls hP hD hS hw hl
  obtain ⟨hx1, hb, hml, hown, hts, hK, hA, -, hRm, -⟩ := C
  obtain ⟨m1, m2, m3, m4, m5⟩ := hm
  obtain ⟨⟨r1, r2⟩, r3, r4⟩ := hR
  obtain ⟨rfl, rfl⟩ := hab
  have hPc := va_P_left (w1 := wlc cy adc E σ.1) hP
  have hDc := va_D_left (w1 := wlc cy adc E σ.1) hD
  have hKc := tyL_c hK
  have hF := callFree hA hDc hS
  obtain ⟨q0, ci, fs, T0, N0, e1, e2⟩ := hrc
  subst hst
  refine vx_callf (vx_runV (As := As) (rest := rest) ⟨hx1, hb, hml, hown, hts⟩ (ct hw.1 H.size) ⟨callB_of n hts (lwG_good m1) rfl rfl rfl (hts _ m2) (hts _ hlink) m3 (by rw [hRm]; exact ⟨r1, r2⟩), hts _ m4, hts _ m5⟩ ⟨preZ_blind zk, va_recv hKc hPc e2 e1, fun U hU hW => ⟨rfl, ⟨by rw [hU], by rw [hU]; exact hPc, va_K.moved hW.alike hKc, hDc.weaken (fun _ _ _ _ => trivial)⟩, by rw [hU]; exact zk.2.2 _ _ _ _ (zk.1 _ _ _ _ hW (zk.2.1 _ _ _ _ hZ hS.2.1)) hF⟩⟩ rfl hn hl.1 rfl (lv_room hcat) d (by rw [hRm]; exact ⟨r3, r4⟩)) hS (fun q _ h => hF q h) hF (fun q _ h => hF q h) (fun Ex ce q9 u t H1 locs1 ht hvm hpx hB hz hk hS1 hq9 hv9 hc9 => ?_) (fun r u t H1 locs1 ht hvm hw1 hB hz hk hS1 => ?_)
  · obtain ⟨hx0, hwf⟩ := hpx
    obtain ⟨rfl, hP1, hD1⟩ := hB
    rw [ht] at hP1
    obtain ⟨hP2, hD2⟩ := va_frame hP hD hP1 hD1 hk hF
    exact hx hx0 H1 locs1 ls q9 ce hP2 hD2 hS1 ⟨hwf, hw.2⟩ hl hq9 hv9 hc9
  · obtain ⟨h0, rfl, hwf⟩ := hw1
    obtain ⟨hP1, hD1⟩ := hB
    rw [ht] at hP1
    obtain ⟨hP2, hD2⟩ := va_frame hP hD hP1 hD1 hk hF
    exact K h0 H1 locs1 ls hP2 hD2 hS1 ⟨hwf, hw.2⟩ hl
theorem T_lxf (zk : Zok Z) (hZ : Zx Z X (YL cy adc adm E G A nL Q)) (C : Cx X (YL cy adc adm E G A nL Q) cc own ret Rm (tyL cy)) (As rest : List Value) {q : Nat} {f : Option (Sm × Nat × UInt32)} {k kx : Sm × Nat × UInt32 → Option O} (ct : ∀ o, f = some o → wfc σ.1 → CxF Z X.2.1 y ccy maxL (some .float) rm (wlc cy adc E) wfc G (tyc cy) (.ref q :: As) σ.1 o) (hlink : Cond.methodLink own idx y ∈ lwG) (hm : cmV y ccy maxL (some .float) n) (hrc : va_Rc (wlc cy adc E σ.1) q y.cls) (hn : As.length = n) (hst : st = As.reverse ++ .ref q :: rest) (hcat : (rest.map fun v => v.category).sum ≤ 8) (hR : rmFit rm Rm maxL a b) {a' b' : Nat} (hab : a + rm.cells = a' ∧ b + rm.slots = b')
    (d : decode cc pc = .ok (.invokevirtual idx, 3)) (KX : ∀ o, TX X (YL cy adc adm E G A nL Q) kp a' b' pc L rest (o.1, σ.2) o.2.1 (kx o)) (K : ∀ o, T X (YL cy adc adm E G A nL Q) kp a' b' (pc + 3) L (.float o.2.2 :: rest) (o.1, σ.2) (k o)) : T X (YL cy adc adm E G A nL Q) kp a b pc L st σ (f.bind fun o => if o.2.1 = 0 then k o else kx o) := fun w h hk => by
  obtain ⟨o, ho, h2⟩ := Option.bind_eq_some_iff.mp h
  refine J_lxf zk hZ C As rest o (ct o ho) hlink hm hrc hn hst hcat hR hab d (fun h0 => ?_) (fun h0 => ?_)
  · rw [if_neg h0] at h2; exact KX o w h2 hk
  · rw [if_pos h0] at h2; exact K o w h2 hk
theorem T_lz (zk : Zok Z) (hZ : Zx Z X (YL cy adc adm E G A nL Q)) (C : Cx X (YL cy adc adm E G A nL Q) cc own ret Rm (tyL cy)) (As rest : List Value) {q : Nat} {f : Option (Sm × Int)} {k : Sm × Int → Option O} (ct : ∀ o, f = some o → wfc σ.1 → CzI Z X.2.1 y ccy maxL rety rm (wlc cy adc E) wfc G (tyc cy) (.ref q :: As) σ.1 o.1 o.2) (hlink : Cond.methodLink own idx y ∈ lwG) (hm : cmV y ccy maxL rety n) (hrc : va_Rc (wlc cy adc E σ.1) q y.cls) (hn : As.length = n) (hst : st = As.reverse ++ .ref q :: rest) (hcat : (rest.map fun v => v.category).sum ≤ 8) (hR : rmFit rm Rm maxL a b) {a' b' : Nat} (hab : a + rm.cells = a' ∧ b + rm.slots = b')
    (d : decode cc pc = .ok (.invokevirtual idx, 3)) (K : ∀ o, rng o.2 ∧ nar rety o.2 → T X (YL cy adc adm E G A nL Q) kp a' b' (pc + 3) L (vi o.2 :: rest) (o.1, σ.2) (k o)) : T X (YL cy adc adm E G A nL Q) kp a b pc L st σ (f.bind k) := fun w h hk => by
  obtain ⟨o, ho, h2⟩ := Option.bind_eq_some_iff.mp h
  intro H locs ls hP hD hS hw hl
  obtain ⟨hx1, hb, hml, hown, hts, hK, hA, -, hRm, -⟩ := C
  obtain ⟨m1, m2, m3, m4, m5⟩ := hm
  obtain ⟨⟨r1, r2⟩, r3, r4⟩ := hR
  obtain ⟨rfl, rfl⟩ := hab
  have hPc := va_P_left (w1 := wlc cy adc E σ.1) hP
  have hDc := va_D_left (w1 := wlc cy adc E σ.1) hD
  have hKc := tyL_c hK
  have hF := callFree hA hDc hS
  obtain ⟨q0, ci, fs, T0, N0, e1, e2⟩ := hrc
  subst hst
  refine va_calli (va_runV (As := As) (rest := rest) ⟨hx1, hb, hml, hown, hts⟩ (ct o ho hw.1 H.size) ⟨callB_of n hts (lwG_good m1) rfl rfl rfl (hts _ m2) (hts _ hlink) m3 (by rw [hRm]; exact ⟨r1, r2⟩), hts _ m4, hts _ m5⟩ ⟨preZ_blind zk, va_recv hKc hPc e2 e1, fun U hU hW => ⟨rfl, ⟨by rw [hU], by rw [hU]; exact hPc, va_K.moved hW.alike hKc, hDc.weaken (fun _ _ _ _ => trivial)⟩, by rw [hU]; exact zk.2.2 _ _ _ _ (zk.1 _ _ _ _ hW (zk.2.1 _ _ _ _ hZ hS.2.1)) hF⟩⟩ rfl hn hl.1 rfl (lv_room hcat) d (by rw [hRm]; exact ⟨r3, r4⟩)) hS (fun q _ h => hF q h) hF (fun r u t H1 locs1 ht hvm hw1 hB hz hk9 hS1 => ?_)
  obtain ⟨rfl, hr, hwf⟩ := hw1
  obtain ⟨hP1, hD1⟩ := hB
  rw [ht] at hP1
  obtain ⟨hP2, hD2⟩ := va_frame hP hD hP1 hD1 hk9 hF
  exact K o hr w h2 hk H1 locs1 ls hP2 hD2 hS1 ⟨hwf, hw.2⟩ hl
theorem T_lmi (C : Cx X (YL cy adc adm E G A nL Q) cc own ret Rm (tyL cy)) (As rest : List Value) {q : Nat} {f : Option (Sm × Int)} {k : Sm × Int → Option O} (ct : ∀ o, f = some o → wfm σ.2.1 → CtI X.2.1 y ccy maxL rety rm (wlm (cy 0) adm) wfm G (tym (cy 0)) (.ref q :: As) σ.2.1 o.1 o.2) (hlink : Cond.methodLink own idx y ∈ lwG) (hm : cmV y ccy maxL rety n) (hrc : va_Rc (wlm (cy 0) adm σ.2.1) q y.cls) (hn : As.length = n) (hst : st = As.reverse ++ .ref q :: rest) (hcat : (rest.map fun v => v.category).sum ≤ 8) (hR : rmFit rm Rm maxL a b) {a' b' : Nat} (hab : a + rm.cells = a' ∧ b + rm.slots = b')
    (d : decode cc pc = .ok (.invokevirtual idx, 3)) (K : ∀ o, rng o.2 ∧ nar rety o.2 → T X (YL cy adc adm E G A nL Q) kp a' b' (pc + 3) L (vi o.2 :: rest) (σ.1, o.1, σ.2.2) (k o)) : T X (YL cy adc adm E G A nL Q) kp a b pc L st σ (f.bind k) := fun w h hk => by
  obtain ⟨o, ho, h2⟩ := Option.bind_eq_some_iff.mp h
  intro H locs ls hP hD hS hw hl
  obtain ⟨hx1, hb, hml, hown, hts, hK, hA, -, hRm, -⟩ := C
  obtain ⟨m1, m2, m3, m4, m5⟩ := hm
  obtain ⟨⟨r1, r2⟩, r3, r4⟩ := hR
  obtain ⟨rfl, rfl⟩ := hab
  have hP0 := va_P_perm (wlL_m (σ := σ)) hP
  have hD0 := va_D_perm (wlL_m (σ := σ)) hD
  have hPc := va_P_left hP0
  have hDc := va_D_left hD0
  have hKc := tyL_m hK
  have hF := callFree hA hDc hS
  obtain ⟨q0, ci, fs, T0, N0, e1, e2⟩ := hrc
  subst hst
  refine va_calli (va_runV (As := As) (rest := rest) ⟨hx1, hb, hml, hown, hts⟩ (ct o ho hw.2.1 H.size) ⟨callB_of n hts (lwG_good m1) rfl rfl rfl (hts _ m2) (hts _ hlink) m3 (by rw [hRm]; exact ⟨r1, r2⟩), hts _ m4, hts _ m5⟩ ⟨preJ_blind, va_recv hKc hPc e2 e1, fun U hU hW => ⟨rfl, by rw [hU], by rw [hU]; exact hPc, va_K.moved hW.alike hKc, hDc.weaken (fun _ _ _ _ => trivial)⟩⟩ rfl hn hl.1 rfl (lv_room hcat) d (by rw [hRm]; exact ⟨r3, r4⟩)) hS (fun q _ h => hF q h) hF (fun r u t H1 locs1 ht hvm hw1 hB hz hk9 hS1 => ?_)
  obtain ⟨rfl, hr, hwf⟩ := hw1
  obtain ⟨hP1, hD1⟩ := hB
  rw [ht] at hP1
  obtain ⟨hP2, hD2⟩ := va_frame hP0 hD0 hP1 hD1 hk9 hF
  have hpm := (wlL_m (cy := cy) (adc := adc) (adm := adm) (E := E) (σ := (σ.1, o.1, σ.2.2))).symm
  exact K o hr w h2 hk H1 locs1 ls (va_P_perm hpm hP2) (va_D_perm hpm hD2) hS1 ⟨hw.1, hwf, hw.2.2⟩ hl
theorem T_lmd (C : Cx X (YL cy adc adm E G A nL Q) cc own ret Rm (tyL cy)) (As rest : List Value) {q : Nat} {f : Option (Sm × UInt64)} {k : Sm × UInt64 → Option O} (ct : ∀ o, f = some o → wfm σ.2.1 → CtD X.2.1 y ccy maxL (some .double) rm (wlm (cy 0) adm) wfm G (tym (cy 0)) (.ref q :: As) σ.2.1 o.1 o.2) (hlink : Cond.methodLink own idx y ∈ lwG) (hm : cmV y ccy maxL (some .double) n) (hrc : va_Rc (wlm (cy 0) adm σ.2.1) q y.cls) (hn : As.length = n) (hst : st = As.reverse ++ .ref q :: rest) (hcat : (rest.map fun v => v.category).sum ≤ 8) (hR : rmFit rm Rm maxL a b) {a' b' : Nat} (hab : a + rm.cells = a' ∧ b + rm.slots = b')
    (d : decode cc pc = .ok (.invokevirtual idx, 3)) (K : ∀ o, T X (YL cy adc adm E G A nL Q) kp a' b' (pc + 3) L (.double o.2 :: rest) (σ.1, o.1, σ.2.2) (k o)) : T X (YL cy adc adm E G A nL Q) kp a b pc L st σ (f.bind k) := fun w h hk => by
  obtain ⟨o, ho, h2⟩ := Option.bind_eq_some_iff.mp h
  intro H locs ls hP hD hS hw hl
  obtain ⟨hx1, hb, hml, hown, hts, hK, hA, -, hRm, -⟩ := C
  obtain ⟨m1, m2, m3, m4, m5⟩ := hm
  obtain ⟨⟨r1, r2⟩, r3, r4⟩ := hR
  obtain ⟨rfl, rfl⟩ := hab
  have hP0 := va_P_perm (wlL_m (σ := σ)) hP
  have hD0 := va_D_perm (wlL_m (σ := σ)) hD
  have hPc := va_P_left hP0
  have hDc := va_D_left hD0
  have hKc := tyL_m hK
  have hF := callFree hA hDc hS
  obtain ⟨q0, ci, fs, T0, N0, e1, e2⟩ := hrc
  subst hst
  refine va_calld (va_runV (As := As) (rest := rest) ⟨hx1, hb, hml, hown, hts⟩ (ct o ho hw.2.1 H.size) ⟨callB_of n hts (lwG_good m1) rfl rfl rfl (hts _ m2) (hts _ hlink) m3 (by rw [hRm]; exact ⟨r1, r2⟩), hts _ m4, hts _ m5⟩ ⟨preJ_blind, va_recv hKc hPc e2 e1, fun U hU hW => ⟨rfl, by rw [hU], by rw [hU]; exact hPc, va_K.moved hW.alike hKc, hDc.weaken (fun _ _ _ _ => trivial)⟩⟩ rfl hn hl.1 rfl (lv_room hcat) d (by rw [hRm]; exact ⟨r3, r4⟩)) hS (fun q _ h => hF q h) hF (fun r u t H1 locs1 ht hvm hw1 hB hz hk9 hS1 => ?_)
  obtain ⟨rfl, hwf⟩ := hw1
  obtain ⟨hP1, hD1⟩ := hB
  rw [ht] at hP1
  obtain ⟨hP2, hD2⟩ := va_frame hP0 hD0 hP1 hD1 hk9 hF
  have hpm := (wlL_m (cy := cy) (adc := adc) (adm := adm) (E := E) (σ := (σ.1, o.1, σ.2.2))).symm
  exact K o w h2 hk H1 locs1 ls (va_P_perm hpm hP2) (va_D_perm hpm hD2) hS1 ⟨hw.1, hwf, hw.2.2⟩ hl
theorem T_lmf (C : Cx X (YL cy adc adm E G A nL Q) cc own ret Rm (tyL cy)) (As rest : List Value) {q : Nat} {f : Option (Sm × UInt32)} {k : Sm × UInt32 → Option O} (ct : ∀ o, f = some o → wfm σ.2.1 → CtF X.2.1 y ccy maxL (some .float) rm (wlm (cy 0) adm) wfm G (tym (cy 0)) (.ref q :: As) σ.2.1 o.1 o.2) (hlink : Cond.methodLink own idx y ∈ lwG) (hm : cmV y ccy maxL (some .float) n) (hrc : va_Rc (wlm (cy 0) adm σ.2.1) q y.cls) (hn : As.length = n) (hst : st = As.reverse ++ .ref q :: rest) (hcat : (rest.map fun v => v.category).sum ≤ 8) (hR : rmFit rm Rm maxL a b) {a' b' : Nat} (hab : a + rm.cells = a' ∧ b + rm.slots = b')
    (d : decode cc pc = .ok (.invokevirtual idx, 3)) (K : ∀ o, T X (YL cy adc adm E G A nL Q) kp a' b' (pc + 3) L (.float o.2 :: rest) (σ.1, o.1, σ.2.2) (k o)) : T X (YL cy adc adm E G A nL Q) kp a b pc L st σ (f.bind k) := fun w h hk => by
  obtain ⟨o, ho, h2⟩ := Option.bind_eq_some_iff.mp h
  intro H locs ls hP hD hS hw hl
  obtain ⟨hx1, hb, hml, hown, hts, hK, hA, -, hRm, -⟩ := C
  obtain ⟨m1, m2, m3, m4, m5⟩ := hm
  obtain ⟨⟨r1, r2⟩, r3, r4⟩ := hR
  obtain ⟨rfl, rfl⟩ := hab
  have hP0 := va_P_perm (wlL_m (σ := σ)) hP
  have hD0 := va_D_perm (wlL_m (σ := σ)) hD
  have hPc := va_P_left hP0
  have hDc := va_D_left hD0
  have hKc := tyL_m hK
  have hF := callFree hA hDc hS
  obtain ⟨q0, ci, fs, T0, N0, e1, e2⟩ := hrc
  subst hst
  refine va_callf (va_runV (As := As) (rest := rest) ⟨hx1, hb, hml, hown, hts⟩ (ct o ho hw.2.1 H.size) ⟨callB_of n hts (lwG_good m1) rfl rfl rfl (hts _ m2) (hts _ hlink) m3 (by rw [hRm]; exact ⟨r1, r2⟩), hts _ m4, hts _ m5⟩ ⟨preJ_blind, va_recv hKc hPc e2 e1, fun U hU hW => ⟨rfl, by rw [hU], by rw [hU]; exact hPc, va_K.moved hW.alike hKc, hDc.weaken (fun _ _ _ _ => trivial)⟩⟩ rfl hn hl.1 rfl (lv_room hcat) d (by rw [hRm]; exact ⟨r3, r4⟩)) hS (fun q _ h => hF q h) hF (fun r u t H1 locs1 ht hvm hw1 hB hz hk9 hS1 => ?_)
  obtain ⟨rfl, hwf⟩ := hw1
  obtain ⟨hP1, hD1⟩ := hB
  rw [ht] at hP1
  obtain ⟨hP2, hD2⟩ := va_frame hP0 hD0 hP1 hD1 hk9 hF
  have hpm := (wlL_m (cy := cy) (adc := adc) (adm := adm) (E := E) (σ := (σ.1, o.1, σ.2.2))).symm
  exact K o w h2 hk H1 locs1 ls (va_P_perm hpm hP2) (va_D_perm hpm hD2) hS1 ⟨hw.1, hwf, hw.2.2⟩ hl
def cmL (y : MethodName) (cc : ByteArray) (maxL : Nat) (hh : List (Nat × Nat × Nat × Nat)) (n : Nat) : Prop := Cond.codeWith y cc maxL (some .int) hh ∈ lwG ∧ Cond.initialized y.cls ∈ lwG ∧ (y.cls ≠ "java/lang/invoke/MethodHandle" ∧ y.cls ≠ "java/lang/invoke/VarHandle" ∧ (parseMethodDescriptor y.desc).map (fun d => d.parameters.length) = some n) ∧ Cond.static y ∈ lwG
theorem T_lh (zk : Zok Z) (hZ : Zx Z X (YL cy adc adm E G A nL Q)) (C : Cx X (YL cy adc adm E G A nL Q) cc own ret Rm (tyL cy)) {hh : List (Nat × Nat × Nat × Nat)} (As rest : List Value) {f : Option (SL × Int)} {k : SL × Int → Option O} (ct : ∀ o, f = some o → wfL σ → ClI Z X.2.1 y ccy maxL hh rm cy adc adm E G As σ o.1 o.2) (hlink : Cond.methodLink own idx y ∈ lwG) (hm : cmL y ccy maxL hh n) (hn : As.length = n) (hst : st = As.reverse ++ rest) (hcat : (rest.map fun v => v.category).sum ≤ 8) (hR : rmFit rm Rm maxL a b) {a' b' : Nat} (hab : a + rm.cells = a' ∧ b + rm.slots = b')
    (d : decode cc pc = .ok (.invokestatic idx, 3)) (K : ∀ o : SL × Int, rng o.2 → T X (YL cy adc adm E G A nL Q) kp a' b' (pc + 3) L (vi o.2 :: rest) o.1 (k o)) : T X (YL cy adc adm E G A nL Q) kp a b pc L st σ (f.bind k) := fun w h hk => by
  obtain ⟨o, ho, h2⟩ := Option.bind_eq_some_iff.mp h
  intro H locs ls hP hD hS hw hl
  obtain ⟨hx1, hb, hml, hown, hts, hK, hA, -, hRm, -⟩ := C
  obtain ⟨m1, m2, m3, m4⟩ := hm
  obtain ⟨⟨r1, r2⟩, r3, r4⟩ := hR
  obtain ⟨rfl, rfl⟩ := hab
  have hF := callFree hA hD hS
  subst hst
  have hg : GoodIn lwG (va_wsS own idx y (Cond.codeWith y ccy maxL (some .int) hh :: lwG)) := by
    intro w hw
    have hmw : w ∈ lwG := by
      unfold va_wsS at hw
      simp only [List.cons_append, List.nil_append, List.mem_cons] at hw
      rcases hw with rfl | rfl | rfl | rfl | hw
      · exact hlink
      · exact m4
      · exact m2
      · exact m1
      · exact hw
    exact ⟨hmw, good_of_word (List.mem_filter.mp hmw).2⟩
  refine va_calli (vx_runSW (As := As) (rest := rest) ⟨hx1, hb, hml, hown, hts⟩ (ct o ho hw H.size) (vx_cwSW n hts hg rfl rfl rfl m3 (by rw [hRm]; exact ⟨r1, r2⟩)) ⟨preZ_blind zk, fun U hU hW => ⟨rfl, ⟨by rw [hU], by rw [hU]; exact hP, va_K.moved hW.alike hK, hD.weaken (fun _ _ _ _ => trivial)⟩, by rw [hU]; exact zk.2.2 _ _ _ _ (zk.1 _ _ _ _ hW (zk.2.1 _ _ _ _ hZ hS.2.1)) hF⟩⟩ rfl hn hl.1 rfl (lv_room hcat) d (by rw [hRm]; exact ⟨r3, r4⟩)) hS (fun q _ h => hF q h) hF (fun r u t H1 locs1 ht hvm hw1 hB hz hk9 hS1 => ?_)
  obtain ⟨rfl, hr, hwf⟩ := hw1
  obtain ⟨hP1, hD1⟩ := hB
  rw [ht] at hP1
  exact K o hr.1 w h2 hk H1 locs1 ls hP1 (hD1.weaken (fun _ q _ h => hF q.1 h)) hS1 hwf hl
end LC
