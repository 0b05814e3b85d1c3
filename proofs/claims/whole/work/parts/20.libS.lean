/-! constant strings: a command's form k < 14 is the string E 4 k with the bytes E 5 k -/
def fLen : List Nat := [6, 10, 12, 7, 5, 4, 3, 7, 6, 6, 4, 12, 8, 6]
def fByt : List (List Int32) := [[115, 116, 111, 112, 32, 35], [119, 97, 108, 107, 32, 35, 45, 35, 32, 64], [108, 105, 110, 101, 32, 64, 47, 64, 32, 35, 120, 64], [97, 100, 100, 32, 35, 32, 35], [99, 117, 116, 32, 35], [114, 97, 105, 110], [100, 114, 121], [99, 108, 111, 115, 101, 32, 35], [111, 112, 101, 110, 32, 35], [104, 97, 108, 116, 32, 35], [103, 111, 32, 35], [115, 101, 108, 108, 32, 35, 32, 64, 32, 35, 62, 35], [114, 101, 102, 117, 110, 100, 32, 64], [119, 97, 105, 116, 32, 64]]
def fB : List (List Int) := [[115, 116, 111, 112, 32, 35], [119, 97, 108, 107, 32, 35, 45, 35, 32, 64], [108, 105, 110, 101, 32, 64, 47, 64, 32, 35, 120, 64], [97, 100, 100, 32, 35, 32, 35], [99, 117, 116, 32, 35], [114, 97, 105, 110], [100, 114, 121], [99, 108, 111, 115, 101, 32, 35], [111, 112, 101, 110, 32, 35], [104, 97, 108, 116, 32, 35], [103, 111, 32, 35], [115, 101, 108, 108, 32, 35, 32, 64, 32, 35, 62, 35], [114, 101, 102, 117, 110, 100, 32, 64], [119, 97, 105, 116, 32, 64]]
def fln (k : Nat) : Int := (fLen.getD k 0 : Nat)
def fch (k : Nat) (i : Int) : Int := (fB.getD k []).getD i.toNat 0
theorem fln_rng : ∀ k, k < 14 → rng (fln k) ∧ 0 ≤ fln k ∧ fln k ≤ 20 ∧ ((fLen.getD k 0 : Nat) : Int) = fln k := by decide +kernel
theorem fch_ok : ∀ k, k < 14 → ∀ i : Nat, i < fLen.getD k 0 → (fByt.getD k []).getD i 0 = Int32.ofInt ((fB.getD k []).getD i 0) ∧ 0 ≤ (fB.getD k []).getD i 0 ∧ (fB.getD k []).getD i 0 < 256 := by decide +kernel
def ZS (Z : vZ) (E : Nat → Nat → Nat) : Prop := ∀ (A : Nat → Prop) (U : State) (H : Heap), Z A U H → vk_S 14 fLen fByt (E 4) (E 5) A U H ∧ va_Z "java/lang/String" "COMPACT_STRINGS" "Z" (vi 1) A U H ∧ va_Zq "jdk/internal/util/Preconditions" "SIOOBE_FORMATTER" "Ljava/util/function/BiFunction;" A U H ∧
  (va_Z "RingTransit$Script" "COMMANDS" "[LRingTransit$Command;" (.ref (E 2 2)) A U H ∧ va_T (.object "RingTransit$Command") (E 2 2) 14 (fun j => .ref (E 1 j)) A U H) ∧ ∀ i, i < 14 → va_OF "RingTransit$Command" "form" "Ljava/lang/String;" (.ref (E 4 i)) (E 1 i) A U H
section SR
variable {S O : Type} {Z : vZ} {E : Nat → Nat → Nat} {X : vjX} {Y : vjY S} {kp : O → Prop} {cc : ByteArray} {own : String} {ret : Option FieldType} {Rm : Room} {tys : List (ClassId × FieldType)} {a b pc : Nat} {L L' : List (Nat × Value)} {st : List Value} {σ : S} {r : Option O} {idx : Nat}
variable {y : MethodName} {ccy : ByteArray} {maxL : Nat} {rety : Option FieldType} {rm : Room} {n : Nat}
theorem J_czKi (zk : Zok Z) (hZ : Zx Z X Y) (C : Cx X Y cc own ret Rm tys) (As rest : List Value) (o : S × Int) {q : Nat} (ct : Y.2.1 σ → CzI Z X.2.1 y ccy maxL rety rm Y.1 Y.2.1 Y.2.2.1 tys (.ref q :: As) σ o.1 o.2) (hlink : Cond.methodLink own idx y ∈ lwG) (hm : cmV y ccy maxL rety n) (hrc : ∀ (H : Heap) (locs : List Loc), va_S Y.2.2.2.1 X.2.2.2.2.1.heap H locs → ∃ cell : Cell, H[q]? = some cell ∧ cell.vm.isStatics = false ∧ X.2.2.2.2.1.vm.findClass y.cls = some cell.cls) (hn : As.length = n) (hst : st = As.reverse ++ .ref q :: rest) (hcat : (rest.map fun v => v.category).sum ≤ 8) (hR : rmFit rm Rm maxL a b) {a' b' : Nat} (hab : a + rm.cells = a' ∧ b + rm.slots = b')
    (d : decode cc pc = .ok (.invokevirtual idx, 3)) (K : rng o.2 ∧ nar rety o.2 → J X Y a' b' (pc + 3) L (vi o.2 :: rest) o.1) : J X Y a b pc L st σ := by
  intro H locs ls hP hD hS hw hl
  obtain ⟨hx, hb, hml, hown, hts, hK, hA, -, hRm, -⟩ := C
  obtain ⟨m1, m2, m3, m4, m5⟩ := hm
  obtain ⟨⟨r1, r2⟩, r3, r4⟩ := hR
  obtain ⟨rfl, rfl⟩ := hab
  have hF := callFree hA hD hS
  subst hst
  refine va_calli (va_runV (As := As) (rest := rest) ⟨hx, hb, hml, hown, hts⟩ (ct hw H.size) ⟨callB_of n hts (lwG_good m1) rfl rfl rfl (hts _ m2) (hts _ hlink) m3 (by rw [hRm]; exact ⟨r1, r2⟩), hts _ m4, hts _ m5⟩ ⟨preZ_blind zk, hrc H locs hS, fun U hU hW => ⟨rfl, ⟨by rw [hU], by rw [hU]; exact hP, va_K.moved hW.alike hK, hD.weaken (fun _ _ _ _ => trivial)⟩, by rw [hU]; exact zk.2.2 _ _ _ _ (zk.1 _ _ _ _ hW (zk.2.1 _ _ _ _ hZ hS.2.1)) hF⟩⟩ rfl hn hl.1 rfl (lv_room hcat) d (by rw [hRm]; exact ⟨r3, r4⟩)) hS (fun q _ h => hF q h) hF (fun r u t H1 locs1 ht hvm hw1 hB hz hk hS1 => ?_)
  obtain ⟨rfl, hr, hwf⟩ := hw1
  obtain ⟨hP1, hD1⟩ := hB
  rw [ht] at hP1
  exact K hr H1 locs1 ls hP1 (hD1.weaken (fun _ q _ h => hF q.1 h)) hS1 hwf hl
theorem T_czKip (zk : Zok Z) (hZ : Zx Z X Y) (C : Cx X Y cc own ret Rm tys) (As rest : List Value) {q : Nat} {f : Option Int} {k : Int → Option O} (ct : ∀ v, f = some v → Y.2.1 σ → CzI Z X.2.1 y ccy maxL rety rm Y.1 Y.2.1 Y.2.2.1 tys (.ref q :: As) σ σ v) (hlink : Cond.methodLink own idx y ∈ lwG) (hm : cmV y ccy maxL rety n) (hrc : ∀ (H : Heap) (locs : List Loc), va_S Y.2.2.2.1 X.2.2.2.2.1.heap H locs → ∃ cell : Cell, H[q]? = some cell ∧ cell.vm.isStatics = false ∧ X.2.2.2.2.1.vm.findClass y.cls = some cell.cls) (hn : As.length = n) (hst : st = As.reverse ++ .ref q :: rest) (hcat : (rest.map fun v => v.category).sum ≤ 8) (hR : rmFit rm Rm maxL a b) {a' b' : Nat} (hab : a + rm.cells = a' ∧ b + rm.slots = b')
    (d : decode cc pc = .ok (.invokevirtual idx, 3)) (K : ∀ v : Int, rng v ∧ nar rety v → T X Y kp a' b' (pc + 3) L (vi v :: rest) σ (k v)) : T X Y kp a b pc L st σ (f.bind k) := fun w h hk => by
  obtain ⟨v, hv, h2⟩ := Option.bind_eq_some_iff.mp h
  exact J_czKi zk hZ C As rest (σ, v) (ct v hv) hlink hm hrc hn hst hcat hR hab d (fun hr => K v hr w h2 hk)
theorem rcS (zs : ZS Z E) (hZ : Zx Z X Y) {k : Nat} (hk : k < 14) : ∀ (H : Heap) (locs : List Loc), va_S Y.2.2.2.1 X.2.2.2.2.1.heap H locs → ∃ cell : Cell, H[E 4 k]? = some cell ∧ cell.vm.isStatics = false ∧ X.2.2.2.2.1.vm.findClass "java/lang/String" = some cell.cls := fun H locs hS => vk_recv (zs _ _ _ hZ).1 hk hS
theorem T_sVal (zs : ZS Z E) (hZ : Zx Z X Y) (C : Cx X Y cc own ret Rm tys) (k : Nat) (hk : k < 14) (hlink : Cond.fieldLink own idx "java/lang/String" "value" "[B" ∈ lwG) (d : decode cc pc = .ok (.getfield idx, 3)) (K : T X Y kp a b (pc + 3) L (.ref (E 5 k) :: st) σ r) : T X Y kp a b pc L (.ref (E 4 k) :: st) σ r := fun o h hk2 H locs ls hP hD hS hw hl =>
  vk_getf C.1 C.2.1 ((zs _ _ _ hZ).1.1 k hk).2.2.1 hS C.2.2.2.1 (C.2.2.2.2.1 _ hlink) (fun _ h9 => h9) d (K o h hk2 H locs ls hP hD hS hw hl)
theorem T_sCod (zs : ZS Z E) (hZ : Zx Z X Y) (C : Cx X Y cc own ret Rm tys) (k : Nat) (hk : k < 14) (hlink : Cond.fieldLink own idx "java/lang/String" "coder" "B" ∈ lwG) (d : decode cc pc = .ok (.getfield idx, 3)) (K : T X Y kp a b (pc + 3) L (vi 0 :: st) σ r) : T X Y kp a b pc L (.ref (E 4 k) :: st) σ r := fun o h hk2 H locs ls hP hD hS hw hl =>
  vk_getf C.1 C.2.1 ((zs _ _ _ hZ).1.1 k hk).2.1 hS C.2.2.2.1 (C.2.2.2.2.1 _ hlink) (fun _ h9 => h9) d (K o h hk2 H locs ls hP hD hS hw hl)
theorem T_sCom (zs : ZS Z E) (hZ : Zx Z X Y) (C : Cx X Y cc own ret Rm tys) (hlink : Cond.fieldLink own idx "java/lang/String" "COMPACT_STRINGS" "Z" ∈ lwG) (d : decode cc pc = .ok (.getstatic idx, 3)) (K : T X Y kp a b (pc + 3) L (vi 1 :: st) σ r) : T X Y kp a b pc L st σ r := fun o h hk H locs ls hP hD hS hw hl =>
  va_gets C.1 C.2.1 (zs _ _ _ hZ).2.1 hS C.2.2.2.1 (C.2.2.2.2.1 _ hlink) (fun _ h9 => h9) d (K o h hk H locs ls hP hD hS hw hl)
theorem T_sFmt (zs : ZS Z E) (hZ : Zx Z X Y) (C : Cx X Y cc own ret Rm tys) (hlink : Cond.fieldLink own idx "jdk/internal/util/Preconditions" "SIOOBE_FORMATTER" "Ljava/util/function/BiFunction;" ∈ lwG) (d : decode cc pc = .ok (.getstatic idx, 3)) (K : ∀ v : Value, (v = .null ∨ ∃ t, v = .ref t) → T X Y kp a b (pc + 3) L (v :: st) σ r) : T X Y kp a b pc L st σ r := fun o h hk H locs ls hP hD hS hw hl => by
  rcases (zs _ _ _ hZ).2.2.1 with h9 | ⟨t, h9⟩
  · exact va_gets C.1 C.2.1 h9 hS C.2.2.2.1 (C.2.2.2.2.1 _ hlink) (fun _ h9 => h9) d (K _ (Or.inl rfl) o h hk H locs ls hP hD hS hw hl)
  · exact va_gets C.1 C.2.1 h9 hS C.2.2.2.1 (C.2.2.2.2.1 _ hlink) (fun _ h9 => h9) d (K _ (Or.inr ⟨_, rfl⟩) o h hk H locs ls hP hD hS hw hl)
theorem T_sLen (zs : ZS Z E) (hZ : Zx Z X Y) (C : Cx X Y cc own ret Rm tys) (k : Nat) (hk : k < 14) (d : decode cc pc = .ok (.arraylength, 1)) (K : T X Y kp a b (pc + 1) L (vi (fln k) :: st) σ r) : T X Y kp a b pc L (.ref (E 5 k) :: st) σ r := fun o h hk2 H locs ls hP hD hS hw hl =>
  va_tlen C.1 C.2.1 ((zs _ _ _ hZ).1.1 k hk).2.2.2 hS (v := Int32.ofInt (fln k)) rfl d (K o h hk2 H locs ls hP hD hS hw hl)
theorem T_sByt (zs : ZS Z E) (hZ : Zx Z X Y) (C : Cx X Y cc own ret Rm tys) (k : Nat) (hk : k < 14) {i : Int} (hi : 0 ≤ i ∧ i < fln k) (d : decode cc pc = .ok (.baload, 1)) (K : 0 ≤ fch k i ∧ fch k i < 256 → T X Y kp a b (pc + 1) L (vi (fch k i) :: st) σ r) : T X Y kp a b pc L (vi i :: .ref (E 5 k) :: st) σ r := fun o h hk2 H locs ls hP hD hS hw hl => by
  obtain ⟨f1, f2, f3, f4⟩ := fln_rng k hk
  have hi2 : 0 ≤ i ∧ i < ((fLen.getD k 0 : Nat) : Int) := by rw [f4]; exact hi
  have hle : fLen.getD k 0 ≤ 2147483647 := by omega
  obtain ⟨c1, c2⟩ := fch_ok k hk i.toNat (by omega)
  refine va_tb (v := vi (fch k i)) C.1 C.2.1 ((zs _ _ _ hZ).1.1 k hk).2.2.2 hS (ix_in hi2 hle) ?_ d (K c2 o h hk2 H locs ls hP hD hS hw hl)
  rw [ix_nat hi2 hle]
  show Value.int ((fByt.getD k []).getD i.toNat 0) = _
  rw [c1]
  rfl
theorem T_cmds (zs : ZS Z E) (hZ : Zx Z X Y) (C : Cx X Y cc own ret Rm tys) (hlink : Cond.fieldLink own idx "RingTransit$Script" "COMMANDS" "[LRingTransit$Command;" ∈ lwG) (d : decode cc pc = .ok (.getstatic idx, 3)) (K : T X Y kp a b (pc + 3) L (.ref (E 2 2) :: st) σ r) : T X Y kp a b pc L st σ r := fun o h hk H locs ls hP hD hS hw hl =>
  va_gets C.1 C.2.1 (zs _ _ _ hZ).2.2.2.1.1 hS C.2.2.2.1 (C.2.2.2.2.1 _ hlink) (fun _ h9 => h9) d (K o h hk H locs ls hP hD hS hw hl)
theorem T_cmdsLen (zs : ZS Z E) (hZ : Zx Z X Y) (C : Cx X Y cc own ret Rm tys) (d : decode cc pc = .ok (.arraylength, 1)) (K : T X Y kp a b (pc + 1) L (vi 14 :: st) σ r) : T X Y kp a b pc L (.ref (E 2 2) :: st) σ r := fun o h hk2 H locs ls hP hD hS hw hl =>
  va_tlen C.1 C.2.1 (zs _ _ _ hZ).2.2.2.1.2 hS (v := Int32.ofInt 14) rfl d (K o h hk2 H locs ls hP hD hS hw hl)
theorem T_cmdsAt (zs : ZS Z E) (hZ : Zx Z X Y) (C : Cx X Y cc own ret Rm tys) {i : Int} (hi : 0 ≤ i ∧ i < 14) (d : decode cc pc = .ok (.aaload, 1)) (K : T X Y kp a b (pc + 1) L (ve E 1 i :: st) σ r) : T X Y kp a b pc L (vi i :: .ref (E 2 2) :: st) σ r := fun o h hk2 H locs ls hP hD hS hw hl =>
  vb_tq (v := ve E 1 i) C.1 C.2.1 (zs _ _ _ hZ).2.2.2.1.2 hS (ix_in (n := 14) hi (by decide)) (by rw [ix_nat (n := 14) hi (by decide)]) d (K o h hk2 H locs ls hP hD hS hw hl)
theorem T_form (zs : ZS Z E) (hZ : Zx Z X Y) (C : Cx X Y cc own ret Rm tys) {i : Int} (hi : 0 ≤ i ∧ i < 14) (hlink : Cond.fieldLink own idx "RingTransit$Command" "form" "Ljava/lang/String;" ∈ lwG) (d : decode cc pc = .ok (.getfield idx, 3)) (K : i.toNat < 14 → T X Y kp a b (pc + 3) L (.ref (E 4 i.toNat) :: st) σ r) : T X Y kp a b pc L (ve E 1 i :: st) σ r := fun o h hk2 H locs ls hP hD hS hw hl =>
  vk_getf C.1 C.2.1 ((zs _ _ _ hZ).2.2.2.2 i.toNat (by omega)) hS C.2.2.2.1 (C.2.2.2.2.1 _ hlink) (fun _ h9 => h9) d (K (by omega) o h hk2 H locs ls hP hD hS hw hl)
end SR
theorem fch_chr {k : Nat} (hk : k < 14) {i : Int} (hi : 0 ≤ i ∧ i < fln k) : 0 ≤ fch k i ∧ fch k i < 65536 := by
  obtain ⟨f1, f2, f3, f4⟩ := fln_rng k hk
  have := (fch_ok k hk i.toNat (by omega)).2
  unfold fch
  omega
section SC
variable {O : Type} {X : vjX} {kp : O → Prop} {cc : ByteArray} {own : String} {ret : Option FieldType} {Rm : Room} {a b pc : Nat} {L L' : List (Nat × Value)} {st : List Value} {σ : Sm} {cy : Nat → ClassId} {ad : Nat → Nat} {E : Nat → Nat → Nat} {G : va_G} {A : Nat → Prop} {nL : Nat} {Q : State → Prop} {rr : Option O} {Z : vZ}
theorem Tc_ast30 (zc : ZC Z E) (hZ : Zx Z X (Yc cy ad E G A nL Q)) (C : Cx X (Yc cy ad E G A nL Q) cc own ret Rm (tyc cy)) {i z : Int} (r k : Nat) (hr : kd r = 30) (hz : 0 ≤ z ∧ z < 14) (hi : 0 ≤ i ∧ i < 16) (hk0 : i.toNat = k) (d : decode cc pc = .ok (.aastore, 1)) (K0 : T X (Yc cy ad E G A nL Q) kp a b (pc + 1) L st (upm σ r k z) rr) : T X (Yc cy ad E G A nL Q) kp a b pc L (ve E 1 z :: vi i :: .ref (ad r) :: st) σ rr := fun o h hk H locs ls hP hD hS hw hl => by
  have hl2 := kd_lt (r := r) (by omega)
  have hat : (wlc cy ad E σ)[r]? = some (ad r, arQ cy 6 16 (fun j => some (E 1 (σ r j).toNat))) := by rw [wlc_at (by omega), hr]; rfl
  have hzn : z.toNat < nmC.length := (ordC_v hz).1
  refine vb_astq (q0 := r) (t0 := 6) C.1 C.2.1 C.2.2.2.2.2.1 hP hD hS hat rfl (va_recvE (zc _ _ _ hZ) hzn hS) vb_asgS (ix_in (n := 16) hi (by decide)) d (fun H1 locs1 hP1 hD1 hS1 => ?_)
  have e : (wlc cy ad E σ).set r (ad r, arQ cy 6 16 (va_up (fun j => some (E 1 (σ r j).toNat)) k (some (E 1 z.toNat)))) = wlc cy ad E (upm σ r k z) := by
    rw [← wlc_set hl2 (fun q hq => upm_ne hq), upm_self, hr]
    have : va_up (fun j => some (E 1 (σ r j).toNat)) k (some (E 1 z.toNat)) = fun j => some (E 1 (upf (σ r) k z j).toNat) := by
      funext j
      unfold va_up upf
      by_cases h : j = k <;> simp [h]
    rw [this]
    rfl
  rw [ix_nat (n := 16) hi (by decide), hk0] at hP1 hD1
  replace hP1 : va_P G vwCl (wlc cy ad E (upm σ r k z)) H1 := by rw [← e]; exact hP1
  replace hD1 : va_D A (wlc cy ad E (upm σ r k z)) := by rw [← e]; exact hD1
  exact K0 o h hk H1 locs1 ls hP1 hD1 hS1 (wfc_up hw (by rw [hr]; exact hz)) hl
end SC
