/-! enums' places, the switches' tables -/
def nmC : List String := ["STOP", "WALK", "LINE", "ADD", "CUT", "RAIN", "DRY", "CLOSE", "OPEN", "HALT", "GO", "SELL", "REFUND", "WAIT"]
def fdC : List (String × String × String × List Int32) := [("java/lang/Enum", "ordinal", "I", [0, 1, 2, 3, 4, 5, 6, 7, 8, 9, 10, 11, 12, 13])]
def swfL : List Int := [0, 1, 2, 3, 4, 5]
def swcL : List Int := [1, 2, 3, 4, 5, 13, 14, 6, 7, 8, 9, 10, 11, 12]
def swf (z : Int) : Int := swfL.getD z.toNat 0
def swc (z : Int) : Int := swcL.getD z.toNat 0
theorem swf_rng (z : Int) : rng (swf z) := by
  unfold swf
  generalize z.toNat = n
  match n with
  | 0 | 1 | 2 | 3 | 4 | 5 => decide
  | n + 6 => exact rng_0
theorem swc_rng (z : Int) : rng (swc z) := by
  unfold swc
  generalize z.toNat = n
  match n with
  | 0 | 1 | 2 | 3 | 4 | 5 | 6 | 7 | 8 | 9 | 10 | 11 | 12 | 13 => decide
  | n + 14 => exact rng_0
def ZC (Z : vZ) (E : Nat → Nat → Nat) : Prop := ∀ (A : Nat → Prop) (U : State) (H : Heap), Z A U H → va_En "RingTransit$Command" "LRingTransit$Command;" nmC fdC (E 1) A U H
def ZT (Z : vZ) (E : Nat → Nat → Nat) : Prop := ∀ (A : Nat → Prop) (U : State) (H : Heap), Z A U H → (va_Z "RingTransit$1" "$SwitchMap$RingTransit$Fault" "[I" (.ref (E 2 0)) A U H ∧ va_T .int (E 2 0) 6 (fun j => vi (swfL.getD j 0)) A U H) ∧ (va_Z "RingTransit$1" "$SwitchMap$RingTransit$Command" "[I" (.ref (E 2 1)) A U H ∧ va_T .int (E 2 1) 14 (fun j => vi (swcL.getD j 0)) A U H)
section YR
variable {S O : Type} {Z : vZ} {E : Nat → Nat → Nat} {X : vjX} {Y : vjY S} {kp : O → Prop} {cc : ByteArray} {own : String} {ret : Option FieldType} {Rm : Room} {tys : List (ClassId × FieldType)} {a b pc : Nat} {L L' : List (Nat × Value)} {st : List Value} {σ : S} {r : Option O} {idx : Nat}
theorem T_ldcw (C : Cx X Y cc own ret Rm tys) {i : Nat} {v : Int32} (n : Int) (d : decode cc pc = .ok (.ldc_w i, 3)) (hc : Cond.constant own i v ∈ lwG) (hn : Int32.ofInt n = v) (K : T X Y kp a b (pc + 3) L (vi n :: st) σ r) : T X Y kp a b pc L st σ r := by
  subst hn
  exact fun o h hk H locs ls hP hD hS hw hl => lv_ldcw C.1 C.2.1 C.2.2.2.1 (C.2.2.2.2.1 _ hc) d (K o h hk H locs ls hP hD hS hw hl)
theorem T_gettF (zt : ZT Z E) (hZ : Zx Z X Y) (C : Cx X Y cc own ret Rm tys) (hlink : Cond.fieldLink own idx "RingTransit$1" "$SwitchMap$RingTransit$Fault" "[I" ∈ lwG) (d : decode cc pc = .ok (.getstatic idx, 3)) (K : T X Y kp a b (pc + 3) L (.ref (E 2 0) :: st) σ r) : T X Y kp a b pc L st σ r := fun o h hk H locs ls hP hD hS hw hl =>
  va_gets C.1 C.2.1 (zt _ _ _ hZ).1.1 hS C.2.2.2.1 (C.2.2.2.2.1 _ hlink) (fun _ h9 => h9) d (K o h hk H locs ls hP hD hS hw hl)
theorem T_gettC (zt : ZT Z E) (hZ : Zx Z X Y) (C : Cx X Y cc own ret Rm tys) (hlink : Cond.fieldLink own idx "RingTransit$1" "$SwitchMap$RingTransit$Command" "[I" ∈ lwG) (d : decode cc pc = .ok (.getstatic idx, 3)) (K : T X Y kp a b (pc + 3) L (.ref (E 2 1) :: st) σ r) : T X Y kp a b pc L st σ r := fun o h hk H locs ls hP hD hS hw hl =>
  va_gets C.1 C.2.1 (zt _ _ _ hZ).2.1 hS C.2.2.2.1 (C.2.2.2.2.1 _ hlink) (fun _ h9 => h9) d (K o h hk H locs ls hP hD hS hw hl)
theorem T_taldF (zt : ZT Z E) (hZ : Zx Z X Y) (C : Cx X Y cc own ret Rm tys) {z : Int} (hz : 0 ≤ z ∧ z < 6) (d : decode cc pc = .ok (.iaload, 1)) (K : T X Y kp a b (pc + 1) L (vi (swf z) :: st) σ r) : T X Y kp a b pc L (vi z :: .ref (E 2 0) :: st) σ r := fun o h hk H locs ls hP hD hS hw hl =>
  va_ti (v := vi (swf z)) C.1 C.2.1 (zt _ _ _ hZ).1.2 hS (ix_in (n := 6) hz (by decide)) (by rw [ix_nat (n := 6) hz (by decide)]; rfl) d (K o h hk H locs ls hP hD hS hw hl)
theorem T_taldC (zt : ZT Z E) (hZ : Zx Z X Y) (C : Cx X Y cc own ret Rm tys) {z : Int} (hz : 0 ≤ z ∧ z < 14) (d : decode cc pc = .ok (.iaload, 1)) (K : T X Y kp a b (pc + 1) L (vi (swc z) :: st) σ r) : T X Y kp a b pc L (vi z :: .ref (E 2 1) :: st) σ r := fun o h hk H locs ls hP hD hS hw hl =>
  va_ti (v := vi (swc z)) C.1 C.2.1 (zt _ _ _ hZ).2.2 hS (ix_in (n := 14) hz (by decide)) (by rw [ix_nat (n := 14) hz (by decide)]; rfl) d (K o h hk H locs ls hP hD hS hw hl)
theorem T_getE {ke : Nat} {Ec de : String} {nm : List String} {vals : List Int32} (ze : ∀ (A : Nat → Prop) (U : State) (H : Heap), Z A U H → va_En Ec de nm [("java/lang/Enum", "ordinal", "I", vals)] (E ke) A U H) (hZ : Zx Z X Y) (C : Cx X Y cc own ret Rm tys) {z : Int} (hz : z.toNat < nm.length) (hv : vals.getD z.toNat 0 = Int32.ofInt z) (hlink : Cond.fieldLink own idx "java/lang/Enum" "ordinal" "I" ∈ lwG) (d : decode cc pc = .ok (.getfield idx, 3)) (K : T X Y kp a b (pc + 3) L (vi z :: st) σ r) : T X Y kp a b pc L (ve E ke z :: st) σ r := fun o h hk H locs ls hP hD hS hw hl => by
  refine va_getE C.1 C.2.1 (ze _ _ _ hZ) hz hS C.2.2.2.1 (q := ("java/lang/Enum", "ordinal", "I", vals)) (List.mem_singleton.mpr rfl) (C.2.2.2.2.1 _ hlink) (fun _ h9 => h9) d ?_
  show W _ _ _ _ _ _ _ _ _ _ _ _ _ _ _ (F0 _ _ _ (.int (vals.getD z.toNat 0) :: st))
  rw [hv]
  exact K o h hk H locs ls hP hD hS hw hl
abbrev yOrd : MethodName := yJx29ce0_ordinal_8abf5
abbrev rmOrd : Room := ⟨0, 0, 0, 0⟩
theorem ord_par : (parseMethodDescriptor "()I").map (fun d => d.parameters.length) = some 0 := by decide +kernel
theorem ct_ord {wl : S → va_W} {wf : S → Prop} {G : va_G} {l : Launch} {ke : Nat} {Ec de : String} {nm : List String} {vals : List Int32} (ze : ∀ (A : Nat → Prop) (U : State) (H : Heap), Z A U H → va_En Ec de nm [("java/lang/Enum", "ordinal", "I", vals)] (E ke) A U H) (zk : Zok Z) (hlink : Cond.fieldLink RJx29ce0 7 "java/lang/Enum" "ordinal" "I" ∈ lwG) {z : Int} (hz : z.toNat < nm.length) (hr : rng z) (hv : vals.getD z.toNat 0 = Int32.ofInt z) (hw : wf σ) : CzI Z l yOrd cJx29ce0_ordinal_8abf5 1 (some .int) rmOrd wl wf G tys [ve E ke z] σ σ z := by
  refine czI_of zk (by decide +kernel) (Nat.le_of_ble_eq_true rfl) hw (σ, z) (r := some z) z rfl (fun X Y v => EndI X Y cJx29ce0_ordinal_8abf5 rmOrd .int (σ, v)) (fun _ _ h => h) (fun X A Q hZ hX C => ?_)
  show T X _ _ 0 0 0 [(0, ve E ke z)] [] σ (some z)
  refine T_aload_n (pc := 0) C dJx29ce0_ordinal_8abf5_0 rfl 0 rfl ?_
  refine T_getE (pc := 1) ze hZ C hz hv hlink dJx29ce0_ordinal_8abf5_1 ?_
  exact T_iret (pc := 4) z (fun h9 => h9) hr (nar_I _) (by decide) dJx29ce0_ordinal_8abf5_4
theorem T_ord {ke : Nat} {Ec de : String} {nm : List String} {vals : List Int32} (ze : ∀ (A : Nat → Prop) (U : State) (H : Heap), Z A U H → va_En Ec de nm [("java/lang/Enum", "ordinal", "I", vals)] (E ke) A U H) (zk : Zok Z) (hZ : Zx Z X Y) (C : Cx X Y cc own ret Rm tys) {z : Int} (rest : List Value) (hz : z.toNat < nm.length) (hr : rng z) (hv : vals.getD z.toNat 0 = Int32.ofInt z)
    (hf : Cond.fieldLink RJx29ce0 7 "java/lang/Enum" "ordinal" "I" ∈ lwG) (hlink : Cond.methodLink own idx ⟨Ec, "ordinal", "()I"⟩ ∈ lwG) (w1 : Cond.sameMethod Ec "java/lang/Enum" "ordinal" "()I" ∈ lwG) (w2 : Cond.selects Ec ⟨Ec, "ordinal", "()I"⟩ yOrd ∈ lwG) (w3 : Cond.instanceMethod yOrd ∈ lwG) (w4 : Cond.initialized yOrd.cls ∈ lwG) (w5 : Cond.code yOrd cJx29ce0_ordinal_8abf5 1 (some .int) ∈ lwG) (hcat : (rest.map fun v => v.category).sum ≤ 8) (hR : rmFit rmOrd Rm 1 a b) (d : decode cc pc = .ok (.invokevirtual idx, 3)) (K : T X Y kp a b (pc + 3) L (vi z :: rest) σ r) : T X Y kp a b pc L (ve E ke z :: rest) σ r := fun o h hk H locs ls hP hD hS hw hl => by
  obtain ⟨hx, hb, hml, hown, hts, hK, hA, -, hRm, -⟩ := C
  obtain ⟨⟨r1, r2⟩, r3, r4⟩ := hR
  have hF := callFree hA hD hS
  have hg : GoodIn lwG (va_wsU own idx Ec "java/lang/Enum" ⟨Ec, "ordinal", "()I"⟩ yOrd (Cond.code yOrd cJx29ce0_ordinal_8abf5 1 (some .int) :: lwG)) := by
    have g1 : ∀ w : Cond, w ∈ lwG → w ∈ lwG ∧ (w.onTables = true ∨ goodWord w = true) := fun w hw => ⟨hw, Or.inr (List.mem_filter.mp hw).2⟩
    intro w hw
    have hm : w ∈ lwG := by
      unfold va_wsU at hw
      simp only [List.cons_append, List.nil_append, List.mem_cons] at hw
      rcases hw with rfl | rfl | rfl | rfl | rfl | rfl | hw
      · exact hlink
      · exact w1
      · exact w2
      · exact w3
      · exact w4
      · exact w5
      · exact hw
    exact ⟨hm, good_of_word (List.mem_filter.mp hm).2⟩
  refine va_calli (va_runU (As := []) (rest := rest) ⟨hx, hb, hml, hown, hts⟩ (ct_ord (l := X.2.1) ze zk hf hz hr hv hw H.size) (va_cwU 0 hts hg rfl rfl rfl rfl ⟨by decide +kernel, by decide +kernel, ord_par⟩ (by rw [hRm]; exact ⟨r1, r2⟩)) ⟨preZ_blind zk, va_recvE (ze _ _ _ hZ) hz hS, fun U hU hW => ⟨rfl, ⟨by rw [hU], by rw [hU]; exact hP, va_K.moved hW.alike hK, hD.weaken (fun _ _ _ _ => trivial)⟩, by rw [hU]; exact zk.2.2 _ _ _ _ (zk.1 _ _ _ _ hW (zk.2.1 _ _ _ _ hZ hS.2.1)) hF⟩⟩ rfl rfl hl.1 rfl (lv_room hcat) d (by rw [hRm]; exact ⟨r3, r4⟩)) hS (fun q _ h => hF q h) hF (fun rv u t H1 locs1 ht hvm hw1 hB hz9 hk9 hS1 => ?_)
  obtain ⟨rfl, hr9, hwf⟩ := hw1
  obtain ⟨hP1, hD1⟩ := hB
  rw [ht] at hP1
  exact K o h hk H1 locs1 ls hP1 (hD1.weaken (fun _ q _ h => hF q.1 h)) hS1 hwf hl
theorem ordF_v {z : Int} (h : 0 ≤ z ∧ z < 6) : z.toNat < nmF.length ∧ rng z ∧ ([0, 1, 2, 3, 4, 5] : List Int32).getD z.toNat 0 = Int32.ofInt z := by
  have : z = 0 ∨ z = 1 ∨ z = 2 ∨ z = 3 ∨ z = 4 ∨ z = 5 := by omega
  rcases this with rfl | rfl | rfl | rfl | rfl | rfl <;> exact ⟨by decide, ⟨by decide, by decide⟩, rfl⟩
theorem ordC_v {z : Int} (h : 0 ≤ z ∧ z < 14) : z.toNat < nmC.length ∧ rng z ∧ ([0, 1, 2, 3, 4, 5, 6, 7, 8, 9, 10, 11, 12, 13] : List Int32).getD z.toNat 0 = Int32.ofInt z := by
  have : z = 0 ∨ z = 1 ∨ z = 2 ∨ z = 3 ∨ z = 4 ∨ z = 5 ∨ z = 6 ∨ z = 7 ∨ z = 8 ∨ z = 9 ∨ z = 10 ∨ z = 11 ∨ z = 12 ∨ z = 13 := by omega
  rcases this with rfl | rfl | rfl | rfl | rfl | rfl | rfl | rfl | rfl | rfl | rfl | rfl | rfl | rfl <;> exact ⟨by decide, ⟨by decide, by decide⟩, rfl⟩
end YR
