theorem dJ0_length_8abf5_0 : decode cJ0_length_8abf5 0 = .ok (.aload_n 0, 1) := by decide +kernel
theorem dJ0_length_8abf5_1 : decode cJ0_length_8abf5 1 = .ok (.getfield 9, 3) := by decide +kernel
theorem dJ0_length_8abf5_4 : decode cJ0_length_8abf5 4 = .ok (.arraylength, 1) := by decide +kernel
theorem dJ0_length_8abf5_5 : decode cJ0_length_8abf5 5 = .ok (.aload_n 0, 1) := by decide +kernel
theorem dJ0_length_8abf5_6 : decode cJ0_length_8abf5 6 = .ok (.invokevirtual 335, 3) := by decide +kernel
theorem dJ0_length_8abf5_9 : decode cJ0_length_8abf5 9 = .ok (.ishr, 1) := by decide +kernel
theorem dJ0_length_8abf5_10 : decode cJ0_length_8abf5 10 = .ok (.ireturn, 1) := by decide +kernel
theorem dJ0_charAt_5068e_0 : decode cJ0_charAt_5068e 0 = .ok (.aload_n 0, 1) := by decide +kernel
theorem dJ0_charAt_5068e_1 : decode cJ0_charAt_5068e 1 = .ok (.invokevirtual 492, 3) := by decide +kernel
theorem dJ0_charAt_5068e_4 : decode cJ0_charAt_5068e 4 = .ok (.ifCond .eq 12, 3) := by decide +kernel
theorem dJ0_charAt_5068e_7 : decode cJ0_charAt_5068e 7 = .ok (.aload_n 0, 1) := by decide +kernel
theorem dJ0_charAt_5068e_8 : decode cJ0_charAt_5068e 8 = .ok (.getfield 9, 3) := by decide +kernel
theorem dJ0_charAt_5068e_11 : decode cJ0_charAt_5068e 11 = .ok (.iload_n 1, 1) := by decide +kernel
theorem dJ0_charAt_5068e_12 : decode cJ0_charAt_5068e 12 = .ok (.invokestatic 495, 3) := by decide +kernel
theorem dJ0_charAt_5068e_15 : decode cJ0_charAt_5068e 15 = .ok (.ireturn, 1) := by decide +kernel
theorem dJ0_charAt_5068e_16 : decode cJ0_charAt_5068e 16 = .ok (.aload_n 0, 1) := by decide +kernel
theorem dJ0_charAt_5068e_17 : decode cJ0_charAt_5068e 17 = .ok (.getfield 9, 3) := by decide +kernel
theorem dJ0_charAt_5068e_20 : decode cJ0_charAt_5068e 20 = .ok (.iload_n 1, 1) := by decide +kernel
theorem dJ0_charAt_5068e_21 : decode cJ0_charAt_5068e 21 = .ok (.invokestatic 498, 3) := by decide +kernel
theorem dJ0_charAt_5068e_24 : decode cJ0_charAt_5068e 24 = .ok (.ireturn, 1) := by decide +kernel
theorem dJ0_coder_7d493_0 : decode cJ0_coder_7d493 0 = .ok (.getstatic 38, 3) := by decide +kernel
theorem dJ0_coder_7d493_3 : decode cJ0_coder_7d493 3 = .ok (.ifCond .eq 10, 3) := by decide +kernel
theorem dJ0_coder_7d493_6 : decode cJ0_coder_7d493 6 = .ok (.aload_n 0, 1) := by decide +kernel
theorem dJ0_coder_7d493_7 : decode cJ0_coder_7d493 7 = .ok (.getfield 15, 3) := by decide +kernel
theorem dJ0_coder_7d493_10 : decode cJ0_coder_7d493 10 = .ok (.goto 4, 3) := by decide +kernel
theorem dJ0_coder_7d493_13 : decode cJ0_coder_7d493 13 = .ok (.iconst 1, 1) := by decide +kernel
theorem dJ0_coder_7d493_14 : decode cJ0_coder_7d493 14 = .ok (.ireturn, 1) := by decide +kernel
theorem dJ0_isLatin1_aae02_0 : decode cJ0_isLatin1_aae02 0 = .ok (.getstatic 38, 3) := by decide +kernel
theorem dJ0_isLatin1_aae02_3 : decode cJ0_isLatin1_aae02 3 = .ok (.ifCond .eq 14, 3) := by decide +kernel
theorem dJ0_isLatin1_aae02_6 : decode cJ0_isLatin1_aae02 6 = .ok (.aload_n 0, 1) := by decide +kernel
theorem dJ0_isLatin1_aae02_7 : decode cJ0_isLatin1_aae02 7 = .ok (.getfield 15, 3) := by decide +kernel
theorem dJ0_isLatin1_aae02_10 : decode cJ0_isLatin1_aae02 10 = .ok (.ifCond .ne 7, 3) := by decide +kernel
theorem dJ0_isLatin1_aae02_13 : decode cJ0_isLatin1_aae02 13 = .ok (.iconst 1, 1) := by decide +kernel
theorem dJ0_isLatin1_aae02_14 : decode cJ0_isLatin1_aae02 14 = .ok (.goto 4, 3) := by decide +kernel
theorem dJ0_isLatin1_aae02_17 : decode cJ0_isLatin1_aae02 17 = .ok (.iconst 0, 1) := by decide +kernel
theorem dJ0_isLatin1_aae02_18 : decode cJ0_isLatin1_aae02 18 = .ok (.ireturn, 1) := by decide +kernel
theorem dJ0_checkIndex_df160_0 : decode cJ0_checkIndex_df160 0 = .ok (.iload_n 0, 1) := by decide +kernel
theorem dJ0_checkIndex_df160_1 : decode cJ0_checkIndex_df160 1 = .ok (.iload_n 1, 1) := by decide +kernel
theorem dJ0_checkIndex_df160_2 : decode cJ0_checkIndex_df160 2 = .ok (.getstatic 1053, 3) := by decide +kernel
theorem dJ0_checkIndex_df160_5 : decode cJ0_checkIndex_df160 5 = .ok (.invokestatic 1059, 3) := by decide +kernel
theorem dJ0_checkIndex_df160_8 : decode cJ0_checkIndex_df160 8 = .ok (.pop, 1) := by decide +kernel
theorem dJ0_checkIndex_df160_9 : decode cJ0_checkIndex_df160 9 = .ok (.return_, 1) := by decide +kernel
theorem dJ1_charAt_3b067_0 : decode cJ1_charAt_3b067 0 = .ok (.iload_n 1, 1) := by decide +kernel
theorem dJ1_charAt_3b067_1 : decode cJ1_charAt_3b067 1 = .ok (.aload_n 0, 1) := by decide +kernel
theorem dJ1_charAt_3b067_2 : decode cJ1_charAt_3b067 2 = .ok (.arraylength, 1) := by decide +kernel
theorem dJ1_charAt_3b067_3 : decode cJ1_charAt_3b067 3 = .ok (.invokestatic 9, 3) := by decide +kernel
theorem dJ1_charAt_3b067_6 : decode cJ1_charAt_3b067 6 = .ok (.aload_n 0, 1) := by decide +kernel
theorem dJ1_charAt_3b067_7 : decode cJ1_charAt_3b067 7 = .ok (.iload_n 1, 1) := by decide +kernel
theorem dJ1_charAt_3b067_8 : decode cJ1_charAt_3b067 8 = .ok (.baload, 1) := by decide +kernel
theorem dJ1_charAt_3b067_9 : decode cJ1_charAt_3b067 9 = .ok (.sipush 255, 3) := by decide +kernel
theorem dJ1_charAt_3b067_12 : decode cJ1_charAt_3b067 12 = .ok (.iand, 1) := by decide +kernel
theorem dJ1_charAt_3b067_13 : decode cJ1_charAt_3b067 13 = .ok (.i2c, 1) := by decide +kernel
theorem dJ1_charAt_3b067_14 : decode cJ1_charAt_3b067 14 = .ok (.ireturn, 1) := by decide +kernel
theorem dJ3_checkIndex_8e157_0 : decode cJ3_checkIndex_8e157 0 = .ok (.iload_n 0, 1) := by decide +kernel
theorem dJ3_checkIndex_8e157_1 : decode cJ3_checkIndex_8e157 1 = .ok (.ifCond .lt 8, 3) := by decide +kernel
theorem dJ3_checkIndex_8e157_4 : decode cJ3_checkIndex_8e157 4 = .ok (.iload_n 0, 1) := by decide +kernel
theorem dJ3_checkIndex_8e157_5 : decode cJ3_checkIndex_8e157 5 = .ok (.iload_n 1, 1) := by decide +kernel
theorem dJ3_checkIndex_8e157_6 : decode cJ3_checkIndex_8e157 6 = .ok (.if_icmp .lt 10, 3) := by decide +kernel
theorem dJ3_checkIndex_8e157_9 : decode cJ3_checkIndex_8e157 9 = .ok (.aload_n 2, 1) := by decide +kernel
theorem dJ3_checkIndex_8e157_10 : decode cJ3_checkIndex_8e157 10 = .ok (.iload_n 0, 1) := by decide +kernel
theorem dJ3_checkIndex_8e157_11 : decode cJ3_checkIndex_8e157 11 = .ok (.iload_n 1, 1) := by decide +kernel
theorem dJ3_checkIndex_8e157_12 : decode cJ3_checkIndex_8e157 12 = .ok (.invokestatic 95, 3) := by decide +kernel
theorem dJ3_checkIndex_8e157_15 : decode cJ3_checkIndex_8e157 15 = .ok (.athrow, 1) := by decide +kernel
theorem dJ3_checkIndex_8e157_16 : decode cJ3_checkIndex_8e157 16 = .ok (.iload_n 0, 1) := by decide +kernel
theorem dJ3_checkIndex_8e157_17 : decode cJ3_checkIndex_8e157 17 = .ok (.ireturn, 1) := by decide +kernel
theorem ks_0 : Cond.fieldLink RJ0 38 "java/lang/String" "COMPACT_STRINGS" "Z" ∈ lwG := lwG_of (tb_7 (List.mem_of_getElem? (i := 7) (by decide +kernel))) (by decide +kernel)
theorem ks_1 : Cond.fieldLink RJ0 15 "java/lang/String" "coder" "B" ∈ lwG := lwG_of (tb_7 (List.mem_of_getElem? (i := 124) (by decide +kernel))) (by decide +kernel)
theorem ks_2 : Cond.code yJ0_coder_7d493 cJ0_coder_7d493 1 (some .byte) ∈ lwG := lwG_of (tb_7 (List.mem_of_getElem? (i := 6) (by decide +kernel))) (by decide +kernel)
theorem ks_3 : Cond.initialized RJ0 ∈ lwG := lwG_of (tb_1 (List.mem_of_getElem? (i := 15) (by decide +kernel))) (by decide +kernel)
theorem ks_4 : Cond.instanceMethod yJ0_coder_7d493 ∈ lwG := lwG_of (tb_7 (List.mem_of_getElem? (i := 4) (by decide +kernel))) (by decide +kernel)
theorem ks_5 : Cond.selects yJ0_coder_7d493.cls yJ0_coder_7d493 yJ0_coder_7d493 ∈ lwG := lwG_of (tb_7 (List.mem_of_getElem? (i := 5) (by decide +kernel))) (by decide +kernel)
theorem ks_6 : Cond.code yJ0_isLatin1_aae02 cJ0_isLatin1_aae02 1 (some .boolean) ∈ lwG := lwG_of (tb_8 (List.mem_of_getElem? (i := 15) (by decide +kernel))) (by decide +kernel)
theorem ks_7 : Cond.instanceMethod yJ0_isLatin1_aae02 ∈ lwG := lwG_of (tb_8 (List.mem_of_getElem? (i := 13) (by decide +kernel))) (by decide +kernel)
theorem ks_8 : Cond.selects yJ0_isLatin1_aae02.cls yJ0_isLatin1_aae02 yJ0_isLatin1_aae02 ∈ lwG := lwG_of (tb_8 (List.mem_of_getElem? (i := 14) (by decide +kernel))) (by decide +kernel)
theorem ks_9 : Cond.fieldLink RJ0 9 "java/lang/String" "value" "[B" ∈ lwG := lwG_of (tb_7 (List.mem_of_getElem? (i := 123) (by decide +kernel))) (by decide +kernel)
theorem ks_10 : Cond.methodLink RJ0 335 yJ0_coder_7d493 ∈ lwG := lwG_of (tb_7 (List.mem_of_getElem? (i := 3) (by decide +kernel))) (by decide +kernel)
theorem ks_11 : Cond.code yJ0_length_8abf5 cJ0_length_8abf5 1 (some .int) ∈ lwG := lwG_of (tb_7 (List.mem_of_getElem? (i := 2) (by decide +kernel))) (by decide +kernel)
theorem ks_12 : Cond.instanceMethod yJ0_length_8abf5 ∈ lwG := lwG_of (tb_7 (List.mem_of_getElem? (i := 0) (by decide +kernel))) (by decide +kernel)
theorem ks_13 : Cond.selects yJ0_length_8abf5.cls yJ0_length_8abf5 yJ0_length_8abf5 ∈ lwG := lwG_of (tb_7 (List.mem_of_getElem? (i := 1) (by decide +kernel))) (by decide +kernel)
theorem ks_14 : Cond.code yJ3_checkIndex_8e157 cJ3_checkIndex_8e157 3 (some .int) ∈ lwG := lwG_of (tb_7 (List.mem_of_getElem? (i := 186) (by decide +kernel))) (by decide +kernel)
theorem ks_15 : Cond.initialized RJ3 ∈ lwG := lwG_of (tb_1 (List.mem_of_getElem? (i := 35) (by decide +kernel))) (by decide +kernel)
theorem ks_16 : Cond.static yJ3_checkIndex_8e157 ∈ lwG := lwG_of (tb_7 (List.mem_of_getElem? (i := 185) (by decide +kernel))) (by decide +kernel)
theorem ks_17 : Cond.fieldLink RJ0 1053 "jdk/internal/util/Preconditions" "SIOOBE_FORMATTER" "Ljava/util/function/BiFunction;" ∈ lwG := lwG_of (tb_6 (List.mem_of_getElem? (i := 225) (by decide +kernel))) (by decide +kernel)
theorem ks_18 : Cond.methodLink RJ0 1059 yJ3_checkIndex_8e157 ∈ lwG := lwG_of (tb_7 (List.mem_of_getElem? (i := 184) (by decide +kernel))) (by decide +kernel)
theorem ks_19 : Cond.code yJ0_checkIndex_df160 cJ0_checkIndex_df160 2 none ∈ lwG := lwG_of (tb_7 (List.mem_of_getElem? (i := 183) (by decide +kernel))) (by decide +kernel)
theorem ks_20 : Cond.static yJ0_checkIndex_df160 ∈ lwG := lwG_of (tb_7 (List.mem_of_getElem? (i := 182) (by decide +kernel))) (by decide +kernel)
theorem ks_21 : Cond.methodLink RJ1 9 yJ0_checkIndex_df160 ∈ lwG := lwG_of (tb_8 (List.mem_of_getElem? (i := 19) (by decide +kernel))) (by decide +kernel)
theorem ks_22 : Cond.code yJ1_charAt_3b067 cJ1_charAt_3b067 2 (some .char) ∈ lwG := lwG_of (tb_8 (List.mem_of_getElem? (i := 18) (by decide +kernel))) (by decide +kernel)
theorem ks_23 : Cond.initialized RJ1 ∈ lwG := lwG_of (tb_1 (List.mem_of_getElem? (i := 36) (by decide +kernel))) (by decide +kernel)
theorem ks_24 : Cond.static yJ1_charAt_3b067 ∈ lwG := lwG_of (tb_8 (List.mem_of_getElem? (i := 17) (by decide +kernel))) (by decide +kernel)
theorem ks_25 : Cond.methodLink RJ0 492 yJ0_isLatin1_aae02 ∈ lwG := lwG_of (tb_8 (List.mem_of_getElem? (i := 12) (by decide +kernel))) (by decide +kernel)
theorem ks_26 : Cond.methodLink RJ0 495 yJ1_charAt_3b067 ∈ lwG := lwG_of (tb_8 (List.mem_of_getElem? (i := 16) (by decide +kernel))) (by decide +kernel)
theorem ks_27 : Cond.code yJ0_charAt_5068e cJ0_charAt_5068e 2 (some .char) ∈ lwG := lwG_of (tb_8 (List.mem_of_getElem? (i := 11) (by decide +kernel))) (by decide +kernel)
theorem ks_28 : Cond.instanceMethod yJ0_charAt_5068e ∈ lwG := lwG_of (tb_8 (List.mem_of_getElem? (i := 9) (by decide +kernel))) (by decide +kernel)
theorem ks_29 : Cond.selects yJ0_charAt_5068e.cls yJ0_charAt_5068e yJ0_charAt_5068e ∈ lwG := lwG_of (tb_8 (List.mem_of_getElem? (i := 10) (by decide +kernel))) (by decide +kernel)
section KC
variable {S O : Type} {Z : vZ} {E : Nat → Nat → Nat} {X : vjX} {Y : vjY S} {kp : O → Prop} {cc : ByteArray} {own : String} {ret : Option FieldType} {Rm : Room} {tys : List (ClassId × FieldType)} {a b pc : Nat} {L L' : List (Nat × Value)} {st : List Value} {σ : S} {r : Option O} {idx : Nat}
variable {y : MethodName} {ccy : ByteArray} {maxL : Nat} {rety : Option FieldType} {rm : Room} {n : Nat}
theorem T_czKc (zk : Zok Z) (hZ : Zx Z X Y) (C : Cx X Y cc own ret Rm tys) (As rest : List Value) {q : Nat} {v : Int} (ct : Y.2.1 σ → CzI Z X.2.1 y ccy maxL rety rm Y.1 Y.2.1 Y.2.2.1 tys (.ref q :: As) σ σ v) (hlink : Cond.methodLink own idx y ∈ lwG) (hm : cmV y ccy maxL rety n) (hrc : ∀ (H : Heap) (locs : List Loc), va_S Y.2.2.2.1 X.2.2.2.2.1.heap H locs → ∃ cell : Cell, H[q]? = some cell ∧ cell.vm.isStatics = false ∧ X.2.2.2.2.1.vm.findClass y.cls = some cell.cls) (hn : As.length = n) (hst : st = As.reverse ++ .ref q :: rest) (hcat : (rest.map fun v => v.category).sum ≤ 8) (hR : rmFit rm Rm maxL a b) {a' b' : Nat} (hab : a + rm.cells = a' ∧ b + rm.slots = b')
    (d : decode cc pc = .ok (.invokevirtual idx, 3)) (K : rng v ∧ nar rety v → T X Y kp a' b' (pc + 3) L (vi v :: rest) σ r) : T X Y kp a b pc L st σ r := fun w h hk => J_czKi zk hZ C As rest (σ, v) ct hlink hm hrc hn hst hcat hR hab d (fun hr => K hr w h hk)
theorem T_czVc (zk : Zok Z) (hZ : Zx Z X Y) (C : Cx X Y cc own ret Rm tys) (As rest : List Value) {q : Nat} {v : Int} (ct : Y.2.1 σ → CzI Z X.2.1 y ccy maxL rety rm Y.1 Y.2.1 Y.2.2.1 tys (.ref q :: As) σ σ v) (hlink : Cond.methodLink own idx y ∈ lwG) (hm : cmV y ccy maxL rety n) (hrc : va_Rc (Y.1 σ) q y.cls) (hn : As.length = n) (hst : st = As.reverse ++ .ref q :: rest) (hcat : (rest.map fun v => v.category).sum ≤ 8) (hR : rmFit rm Rm maxL a b) {a' b' : Nat} (hab : a + rm.cells = a' ∧ b + rm.slots = b')
    (d : decode cc pc = .ok (.invokevirtual idx, 3)) (K : rng v ∧ nar rety v → T X Y kp a' b' (pc + 3) L (vi v :: rest) σ r) : T X Y kp a b pc L st σ r := fun w h hk => J_czVi zk hZ C As rest (σ, v) ct hlink hm hrc hn hst hcat hR hab d (fun hr => K hr w h hk)
theorem T_czSc (zk : Zok Z) (hZ : Zx Z X Y) (C : Cx X Y cc own ret Rm tys) (As rest : List Value) {v : Int} (ct : Y.2.1 σ → CzI Z X.2.1 y ccy maxL rety rm Y.1 Y.2.1 Y.2.2.1 tys As σ σ v) (hlink : Cond.methodLink own idx y ∈ lwG) (hm : cmS y ccy maxL rety n) (hn : As.length = n) (hst : st = As.reverse ++ rest) (hcat : (rest.map fun v => v.category).sum ≤ 8) (hR : rmFit rm Rm maxL a b) {a' b' : Nat} (hab : a + rm.cells = a' ∧ b + rm.slots = b')
    (d : decode cc pc = .ok (.invokestatic idx, 3)) (K : rng v ∧ nar rety v → T X Y kp a' b' (pc + 3) L (vi v :: rest) σ r) : T X Y kp a b pc L st σ r := fun w h hk => J_czSi zk hZ C As rest (σ, v) ct hlink hm hn hst hcat hR hab d (fun hr => K hr w h hk)
theorem T_czSvc (zk : Zok Z) (hZ : Zx Z X Y) (C : Cx X Y cc own ret Rm tys) (As rest : List Value) (ct : Y.2.1 σ → CzV Z X.2.1 y ccy maxL rm Y.1 Y.2.1 Y.2.2.1 tys As σ σ) (hlink : Cond.methodLink own idx y ∈ lwG) (hm : cmS y ccy maxL none n) (hn : As.length = n) (hst : st = As.reverse ++ rest) (hcat : (rest.map fun v => v.category).sum ≤ 8) (hR : rmFit rm Rm maxL a b) {a' b' : Nat} (hab : a + rm.cells = a' ∧ b + rm.slots = b')
    (d : decode cc pc = .ok (.invokestatic idx, 3)) (K : T X Y kp a' b' (pc + 3) L rest σ r) : T X Y kp a b pc L st σ r := fun w h hk => J_czSv zk hZ C As rest σ ct hlink hm hn hst hcat hR hab d (K w h hk)
/-- an argument that is any reference or null -/
theorem T_aload_v {x : Value} (C : Cx X Y cc own ret Rm tys) {k : Fin 4} {i : Nat} (d : decode cc pc = .ok (.iload_n k, 1)) (hi : (k : Nat) = i) (j : Nat) {z : Int} (h : L[j]? = some (i, vi z)) (K : T X Y kp a b (pc + 1) L (vi z :: st) σ r) : T X Y kp a b pc L st σ r := T_iload_n C d hi j h K
end KC
abbrev rm_J0_coder_7d493 : Room := ⟨0, 0, 0, 0⟩
theorem cm_J0_coder_7d493 : cmV yJ0_coder_7d493 cJ0_coder_7d493 1 (some .byte) 0 := ⟨ks_2, ks_3, ⟨by decide +kernel, by decide +kernel, by decide +kernel⟩, ks_4, ks_5⟩
theorem ct_J0_coder_7d493 {S : Type} {wl : S → va_W} {wf : S → Prop} {G : va_G} {tys : List (ClassId × FieldType)} {l : Launch} {Z : vZ} {E : Nat → Nat → Nat} {σ : S} (zk : Zok Z) (zs : ZS Z E) (k : Nat) (hk : k < 14) (hw : wf σ) : CzI Z l yJ0_coder_7d493 cJ0_coder_7d493 1 (some .byte) rm_J0_coder_7d493 wl wf G tys [.ref (E 4 k)] σ σ 0 := by
  refine czI_of zk (by decide +kernel) (Nat.le_of_ble_eq_true rfl) hw (σ, 0) (r := some (0)) (0) rfl (fun X Y v => EndI X Y cJ0_coder_7d493 rm_J0_coder_7d493 .byte (σ, v)) (fun _ _ h => h) (fun X A Q hZ hX C => ?_)
  show T X _ _ 0 0 0 [(0, .ref (E 4 k))] [] σ (some 0)
  refine T_sCom (pc := 0) zs hZ C ks_0 dJ0_coder_7d493_0 ?_
  refine T_if_eq_f (pc := 3) C 13 dJ0_coder_7d493_3 rfl (rngL rfl) (by decide) ?_
  refine T_aload_n (pc := 6) C dJ0_coder_7d493_6 rfl 0 rfl ?_
  refine T_sCod (pc := 7) zs hZ C k hk ks_1 dJ0_coder_7d493_7 ?_
  refine T_goto (pc := 10) C 14 dJ0_coder_7d493_10 rfl ?_
  exact T_iret (pc := 14) 0 (fun h9 => h9) (rngL rfl) rfl (by decide) dJ0_coder_7d493_14
abbrev rm_J0_isLatin1_aae02 : Room := ⟨0, 0, 0, 0⟩
theorem cm_J0_isLatin1_aae02 : cmV yJ0_isLatin1_aae02 cJ0_isLatin1_aae02 1 (some .boolean) 0 := ⟨ks_6, ks_3, ⟨by decide +kernel, by decide +kernel, by decide +kernel⟩, ks_7, ks_8⟩
theorem ct_J0_isLatin1_aae02 {S : Type} {wl : S → va_W} {wf : S → Prop} {G : va_G} {tys : List (ClassId × FieldType)} {l : Launch} {Z : vZ} {E : Nat → Nat → Nat} {σ : S} (zk : Zok Z) (zs : ZS Z E) (k : Nat) (hk : k < 14) (hw : wf σ) : CzI Z l yJ0_isLatin1_aae02 cJ0_isLatin1_aae02 1 (some .boolean) rm_J0_isLatin1_aae02 wl wf G tys [.ref (E 4 k)] σ σ 1 := by
  refine czI_of zk (by decide +kernel) (Nat.le_of_ble_eq_true rfl) hw (σ, 1) (r := some (1)) (1) rfl (fun X Y v => EndI X Y cJ0_isLatin1_aae02 rm_J0_isLatin1_aae02 .boolean (σ, v)) (fun _ _ h => h) (fun X A Q hZ hX C => ?_)
  show T X _ _ 0 0 0 [(0, .ref (E 4 k))] [] σ (some 1)
  refine T_sCom (pc := 0) zs hZ C ks_0 dJ0_isLatin1_aae02_0 ?_
  refine T_if_eq_f (pc := 3) C 17 dJ0_isLatin1_aae02_3 rfl (rngL rfl) (by decide) ?_
  refine T_aload_n (pc := 6) C dJ0_isLatin1_aae02_6 rfl 0 rfl ?_
  refine T_sCod (pc := 7) zs hZ C k hk ks_1 dJ0_isLatin1_aae02_7 ?_
  refine T_if_ne_f (pc := 10) C 17 dJ0_isLatin1_aae02_10 rfl (rngL rfl) (by decide) ?_
  refine T_iconst (pc := 13) C dJ0_isLatin1_aae02_13 ?_
  refine T_goto (pc := 14) C 18 dJ0_isLatin1_aae02_14 rfl ?_
  exact T_iret (pc := 18) 1 (fun h9 => h9) (rngL rfl) (nar_Z (Or.inr rfl)) (by decide) dJ0_isLatin1_aae02_18
abbrev rm_J0_length_8abf5 : Room := ⟨1, 0, 0, 20⟩
theorem cm_J0_length_8abf5 : cmV yJ0_length_8abf5 cJ0_length_8abf5 1 (some .int) 0 := ⟨ks_11, ks_3, ⟨by decide +kernel, by decide +kernel, by decide +kernel⟩, ks_12, ks_13⟩
theorem ct_J0_length_8abf5 {S : Type} {wl : S → va_W} {wf : S → Prop} {G : va_G} {tys : List (ClassId × FieldType)} {l : Launch} {Z : vZ} {E : Nat → Nat → Nat} {σ : S} (zk : Zok Z) (zs : ZS Z E) (k : Nat) (hk : k < 14) (hw : wf σ) : CzI Z l yJ0_length_8abf5 cJ0_length_8abf5 1 (some .int) rm_J0_length_8abf5 wl wf G tys [.ref (E 4 k)] σ σ (fln k) := by
  have e : fln k / 2 ^ (0 : Int).toNat = fln k := by simp
  rw [← e]
  refine czI_of zk (by decide +kernel) (Nat.le_of_ble_eq_true rfl) hw (σ, fln k / 2 ^ (0 : Int).toNat) (r := some (fln k / 2 ^ (0 : Int).toNat)) (fln k / 2 ^ (0 : Int).toNat) rfl (fun X Y v => EndI X Y cJ0_length_8abf5 rm_J0_length_8abf5 .int (σ, v)) (fun _ _ h => h) (fun X A Q hZ hX C => ?_)
  show T X _ _ 0 0 0 [(0, .ref (E 4 k))] [] σ (some (fln k / 2 ^ (0 : Int).toNat))
  refine T_aload_n (pc := 0) C dJ0_length_8abf5_0 rfl 0 rfl ?_
  refine T_sVal (pc := 1) zs hZ C k hk ks_9 dJ0_length_8abf5_1 ?_
  refine T_sLen (pc := 4) zs hZ C k hk dJ0_length_8abf5_4 ?_
  refine T_aload_n (pc := 5) C dJ0_length_8abf5_5 rfl 0 rfl ?_
  refine T_czKc (pc := 6) zk hZ C [] [vi (fln k)] (fun hw => ct_J0_coder_7d493 zk zs k hk hw) ks_10 cm_J0_coder_7d493 (rcS zs hZ hk) rfl rfl (Nat.le_of_ble_eq_true rfl) (by decide) (a' := 0) (b' := 0) ⟨rfl, rfl⟩ dJ0_length_8abf5_6 (fun h5 => ?_)
  refine T_ishr (pc := 9) C (fln_rng k hk).1 (fln_rng k hk).2.1 (by decide) dJ0_length_8abf5_9 ?_
  exact T_iret (pc := 10) _ (fun h9 => h9) (e.symm ▸ (fln_rng k hk).1) (nar_I _) (by decide) dJ0_length_8abf5_10
abbrev rm_J3_checkIndex_8e157 : Room := ⟨0, 0, 0, 0⟩
theorem cm_J3_checkIndex_8e157 : cmS yJ3_checkIndex_8e157 cJ3_checkIndex_8e157 3 (some .int) 3 := ⟨ks_14, ks_15, ⟨by decide +kernel, by decide +kernel, by decide +kernel⟩, ks_16⟩
theorem ctN_J3_checkIndex_8e157 {S : Type} {wl : S → va_W} {wf : S → Prop} {G : va_G} {tys : List (ClassId × FieldType)} {l : Launch} {Z : vZ} {E : Nat → Nat → Nat} {σ : S} (zk : Zok Z) (zs : ZS Z E) (i n : Int) (hn : rng n) (hi : 0 ≤ i ∧ i < n) (hw : wf σ) : CzI Z l yJ3_checkIndex_8e157 cJ3_checkIndex_8e157 3 (some .int) rm_J3_checkIndex_8e157 wl wf G tys [vi i, vi n, .null] σ σ i := by
  have hri : rng i := by unfold rng at *; omega
  refine czI_of zk (by decide +kernel) (Nat.le_of_ble_eq_true rfl) hw (σ, i) (r := some i) i rfl (fun X Y v => EndI X Y cJ3_checkIndex_8e157 rm_J3_checkIndex_8e157 .int (σ, v)) (fun _ _ h => h) (fun X A Q hZ hX C => ?_)
  show T X _ _ 0 0 0 [(0, vi i), (1, vi n), (2, .null)] [] σ (some i)
  refine T_iload_n (pc := 0) C dJ3_checkIndex_8e157_0 rfl 0 rfl ?_
  refine T_if_lt_f (pc := 1) C 9 dJ3_checkIndex_8e157_1 rfl hri (by omega) ?_
  refine T_iload_n (pc := 4) C dJ3_checkIndex_8e157_4 rfl 0 rfl ?_
  refine T_iload_n (pc := 5) C dJ3_checkIndex_8e157_5 rfl 1 rfl ?_
  refine T_icmp_lt_t (pc := 6) C 16 dJ3_checkIndex_8e157_6 rfl hri hn hi.2 ?_
  refine T_iload_n (pc := 16) C dJ3_checkIndex_8e157_16 rfl 0 rfl ?_
  exact T_iret (pc := 17) i (fun h9 => h9) hri (nar_I _) (by decide) dJ3_checkIndex_8e157_17
theorem ctR_J3_checkIndex_8e157 {S : Type} {wl : S → va_W} {wf : S → Prop} {G : va_G} {tys : List (ClassId × FieldType)} {l : Launch} {Z : vZ} {E : Nat → Nat → Nat} {σ : S} (zk : Zok Z) (zs : ZS Z E) (i n : Int) (t : Nat) (hn : rng n) (hi : 0 ≤ i ∧ i < n) (hw : wf σ) : CzI Z l yJ3_checkIndex_8e157 cJ3_checkIndex_8e157 3 (some .int) rm_J3_checkIndex_8e157 wl wf G tys [vi i, vi n, .ref t] σ σ i := by
  have hri : rng i := by unfold rng at *; omega
  refine czI_of zk (by decide +kernel) (Nat.le_of_ble_eq_true rfl) hw (σ, i) (r := some i) i rfl (fun X Y v => EndI X Y cJ3_checkIndex_8e157 rm_J3_checkIndex_8e157 .int (σ, v)) (fun _ _ h => h) (fun X A Q hZ hX C => ?_)
  show T X _ _ 0 0 0 [(0, vi i), (1, vi n), (2, .ref t)] [] σ (some i)
  refine T_iload_n (pc := 0) C dJ3_checkIndex_8e157_0 rfl 0 rfl ?_
  refine T_if_lt_f (pc := 1) C 9 dJ3_checkIndex_8e157_1 rfl hri (by omega) ?_
  refine T_iload_n (pc := 4) C dJ3_checkIndex_8e157_4 rfl 0 rfl ?_
  refine T_iload_n (pc := 5) C dJ3_checkIndex_8e157_5 rfl 1 rfl ?_
  refine T_icmp_lt_t (pc := 6) C 16 dJ3_checkIndex_8e157_6 rfl hri hn hi.2 ?_
  refine T_iload_n (pc := 16) C dJ3_checkIndex_8e157_16 rfl 0 rfl ?_
  exact T_iret (pc := 17) i (fun h9 => h9) hri (nar_I _) (by decide) dJ3_checkIndex_8e157_17
abbrev rm_J0_checkIndex_df160 : Room := ⟨1, 0, 0, 30⟩
theorem cm_J0_checkIndex_df160 : cmS yJ0_checkIndex_df160 cJ0_checkIndex_df160 2 none 2 := ⟨ks_19, ks_3, ⟨by decide +kernel, by decide +kernel, by decide +kernel⟩, ks_20⟩
theorem ct_J0_checkIndex_df160 {S : Type} {wl : S → va_W} {wf : S → Prop} {G : va_G} {tys : List (ClassId × FieldType)} {l : Launch} {Z : vZ} {E : Nat → Nat → Nat} {σ : S} (zk : Zok Z) (zs : ZS Z E) (i n : Int) (hn : rng n) (hi : 0 ≤ i ∧ i < n) (hw : wf σ) : CzV Z l yJ0_checkIndex_df160 cJ0_checkIndex_df160 2 rm_J0_checkIndex_df160 wl wf G tys [vi i, vi n] σ σ := by
  refine czV_of zk (by decide +kernel) (Nat.le_of_ble_eq_true rfl) hw σ (r := some ()) () rfl (fun X Y v => EndV X Y cJ0_checkIndex_df160 rm_J0_checkIndex_df160 σ) (fun _ _ h => h) (fun X A Q hZ hX C => ?_)
  show T X _ _ 0 0 0 [(0, vi i), (1, vi n)] [] σ (some ())
  refine T_iload_n (pc := 0) C dJ0_checkIndex_df160_0 rfl 0 rfl ?_
  refine T_iload_n (pc := 1) C dJ0_checkIndex_df160_1 rfl 1 rfl ?_
  refine T_sFmt (pc := 2) zs hZ C ks_17 dJ0_checkIndex_df160_2 (fun w hcw => ?_)
  rcases hcw with rfl | ⟨t, rfl⟩
  · refine T_czSc (pc := 5) zk hZ C [vi i, vi n, .null] [] (fun hw => ctN_J3_checkIndex_8e157 zk zs i n hn hi hw) ks_18 cm_J3_checkIndex_8e157 rfl rfl (Nat.le_of_ble_eq_true rfl) (by decide) (a' := 0) (b' := 0) ⟨rfl, rfl⟩ dJ0_checkIndex_df160_5 (fun h5 => ?_)
    refine T_pop (pc := 8) C dJ0_checkIndex_df160_8 rfl ?_
    exact T_vret (pc := 9) () (fun h9 => h9) (by decide) dJ0_checkIndex_df160_9
  · refine T_czSc (pc := 5) zk hZ C [vi i, vi n, .ref t] [] (fun hw => ctR_J3_checkIndex_8e157 zk zs i n t hn hi hw) ks_18 cm_J3_checkIndex_8e157 rfl rfl (Nat.le_of_ble_eq_true rfl) (by decide) (a' := 0) (b' := 0) ⟨rfl, rfl⟩ dJ0_checkIndex_df160_5 (fun h5 => ?_)
    refine T_pop (pc := 8) C dJ0_checkIndex_df160_8 rfl ?_
    exact T_vret (pc := 9) () (fun h9 => h9) (by decide) dJ0_checkIndex_df160_9
abbrev rm_J1_charAt_3b067 : Room := ⟨2, 0, 0, 70⟩
theorem cm_J1_charAt_3b067 : cmS yJ1_charAt_3b067 cJ1_charAt_3b067 2 (some .char) 2 := ⟨ks_22, ks_23, ⟨by decide +kernel, by decide +kernel, by decide +kernel⟩, ks_24⟩
theorem ct_J1_charAt_3b067 {S : Type} {wl : S → va_W} {wf : S → Prop} {G : va_G} {tys : List (ClassId × FieldType)} {l : Launch} {Z : vZ} {E : Nat → Nat → Nat} {σ : S} (zk : Zok Z) (zs : ZS Z E) (k : Nat) (hk : k < 14) (i : Int) (hi : 0 ≤ i ∧ i < fln k) (hw : wf σ) : CzI Z l yJ1_charAt_3b067 cJ1_charAt_3b067 2 (some .char) rm_J1_charAt_3b067 wl wf G tys [.ref (E 5 k), vi i] σ σ (fch k i) := by
  have hb9 : 0 ≤ fch k i ∧ fch k i < 256 := by
    obtain ⟨f1, f2, f3, f4⟩ := fln_rng k hk
    exact (fch_ok k hk i.toNat (by omega)).2
  have e : fch k i % 256 = fch k i := Int.emod_eq_of_lt hb9.1 hb9.2
  rw [← e]
  refine czI_of zk (by decide +kernel) (Nat.le_of_ble_eq_true rfl) hw (σ, fch k i % 256) (r := some (fch k i % 256)) (fch k i % 256) rfl (fun X Y v => EndI X Y cJ1_charAt_3b067 rm_J1_charAt_3b067 .char (σ, v)) (fun _ _ h => h) (fun X A Q hZ hX C => ?_)
  show T X _ _ 0 0 0 [(0, .ref (E 5 k)), (1, vi i)] [] σ (some (fch k i % 256))
  refine T_iload_n (pc := 0) C dJ1_charAt_3b067_0 rfl 1 rfl ?_
  refine T_aload_n (pc := 1) C dJ1_charAt_3b067_1 rfl 0 rfl ?_
  refine T_sLen (pc := 2) zs hZ C k hk dJ1_charAt_3b067_2 ?_
  refine T_czSvc (pc := 3) zk hZ C [vi i, vi (fln k)] [] (fun hw => ct_J0_checkIndex_df160 zk zs i (fln k) (fln_rng k hk).1 hi hw) ks_21 cm_J0_checkIndex_df160 rfl rfl (Nat.le_of_ble_eq_true rfl) (by decide) (a' := 0) (b' := 0) ⟨rfl, rfl⟩ dJ1_charAt_3b067_3 ?_
  refine T_aload_n (pc := 6) C dJ1_charAt_3b067_6 rfl 0 rfl ?_
  refine T_iload_n (pc := 7) C dJ1_charAt_3b067_7 rfl 1 rfl ?_
  refine T_sByt (pc := 8) zs hZ C k hk hi dJ1_charAt_3b067_8 (fun hb => ?_)
  refine T_sipush (pc := 9) C dJ1_charAt_3b067_9 (by decide) ?_
  refine T_mask (pc := 12) C 8 256 (by decide) (by decide) (by decide) dJ1_charAt_3b067_12 ?_
  refine T_i2c (pc := 13) C (by omega) dJ1_charAt_3b067_13 ?_
  exact T_iret (pc := 14) _ (fun h9 => h9) (by unfold rng; omega) (nar_C (by omega)) (by decide) dJ1_charAt_3b067_14
abbrev rm_J0_charAt_5068e : Room := ⟨3, 0, 0, 110⟩
theorem cm_J0_charAt_5068e : cmV yJ0_charAt_5068e cJ0_charAt_5068e 2 (some .char) 1 := ⟨ks_27, ks_3, ⟨by decide +kernel, by decide +kernel, by decide +kernel⟩, ks_28, ks_29⟩
theorem ct_J0_charAt_5068e {S : Type} {wl : S → va_W} {wf : S → Prop} {G : va_G} {tys : List (ClassId × FieldType)} {l : Launch} {Z : vZ} {E : Nat → Nat → Nat} {σ : S} (zk : Zok Z) (zs : ZS Z E) (k : Nat) (hk : k < 14) (i : Int) (hi : 0 ≤ i ∧ i < fln k) (hw : wf σ) : CzI Z l yJ0_charAt_5068e cJ0_charAt_5068e 2 (some .char) rm_J0_charAt_5068e wl wf G tys [.ref (E 4 k), vi i] σ σ (fch k i) := by
  refine czI_of zk (by decide +kernel) (Nat.le_of_ble_eq_true rfl) hw (σ, fch k i) (r := some (fch k i)) (fch k i) rfl (fun X Y v => EndI X Y cJ0_charAt_5068e rm_J0_charAt_5068e .char (σ, v)) (fun _ _ h => h) (fun X A Q hZ hX C => ?_)
  show T X _ _ 0 0 0 [(0, .ref (E 4 k)), (1, vi i)] [] σ (some (fch k i))
  refine T_aload_n (pc := 0) C dJ0_charAt_5068e_0 rfl 0 rfl ?_
  refine T_czKc (pc := 1) zk hZ C [] [] (fun hw => ct_J0_isLatin1_aae02 zk zs k hk hw) ks_25 cm_J0_isLatin1_aae02 (rcS zs hZ hk) rfl rfl (Nat.le_of_ble_eq_true rfl) (by decide) (a' := 0) (b' := 0) ⟨rfl, rfl⟩ dJ0_charAt_5068e_1 (fun h5 => ?_)
  refine T_if_eq_f (pc := 4) C 16 dJ0_charAt_5068e_4 rfl (rngL rfl) (by decide) ?_
  refine T_aload_n (pc := 7) C dJ0_charAt_5068e_7 rfl 0 rfl ?_
  refine T_sVal (pc := 8) zs hZ C k hk ks_9 dJ0_charAt_5068e_8 ?_
  refine T_iload_n (pc := 11) C dJ0_charAt_5068e_11 rfl 1 rfl ?_
  refine T_czSc (pc := 12) zk hZ C [.ref (E 5 k), vi i] [] (fun hw => ct_J1_charAt_3b067 zk zs k hk i hi hw) ks_26 cm_J1_charAt_3b067 rfl rfl (Nat.le_of_ble_eq_true rfl) (by decide) (a' := 0) (b' := 0) ⟨rfl, rfl⟩ dJ0_charAt_5068e_12 (fun h5 => ?_)
  exact T_iret (pc := 15) _ (fun h9 => h9) h5.1 (h5.2 _ rfl) (by decide) dJ0_charAt_5068e_15
