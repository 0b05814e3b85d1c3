theorem xr_0 : ∀ w ∈ vx_atS RX12 409 "java/lang/IllegalStateException" ["java/lang/RuntimeException", "java/lang/Exception"], w ∈ lwG ∨ w ∈ nwL := by decide +kernel
theorem xr_1 : ∀ w ∈ vx_atS RX12 402 "java/lang/IllegalArgumentException" ["java/lang/RuntimeException", "java/lang/Exception"], w ∈ lwG ∨ w ∈ nwL := by decide +kernel
theorem ky_0 : Cond.code yX12_runScript cX12_runScript 3 (some .int) ∈ lwG := lwG_of (tb_7 (List.mem_of_getElem? (i := 232) (by decide +kernel))) (by decide +kernel)
theorem ky_1 : Cond.fieldLink RX12 60 "RingTransit" "script" "LRingTransit$Script;" ∈ lwG := lwG_of (tb_2 (List.mem_of_getElem? (i := 142) (by decide +kernel))) (by decide +kernel)
theorem ky_2 : Cond.methodLink RX12 413 yX9_parse ∈ lwG := lwG_of (tb_7 (List.mem_of_getElem? (i := 233) (by decide +kernel))) (by decide +kernel)
theorem ky_3 : Cond.fieldLink RX12 403 "RingTransit$Script" "length" "I" ∈ lwG := lwG_of (tb_2 (List.mem_of_getElem? (i := 79) (by decide +kernel))) (by decide +kernel)
theorem ky_4 : Cond.fieldLink RX12 16 "RingTransit" "before" "LRingTransit$Network;" ∈ lwG := lwG_of (tb_2 (List.mem_of_getElem? (i := 134) (by decide +kernel))) (by decide +kernel)
theorem ky_5 : Cond.fieldLink RX12 10 "RingTransit" "network" "LRingTransit$Network;" ∈ lwG := lwG_of (tb_2 (List.mem_of_getElem? (i := 133) (by decide +kernel))) (by decide +kernel)
theorem ky_6 : Cond.methodLink RX12 421 yX8_copyFrom ∈ lwG := lwG_of (tb_3 (List.mem_of_getElem? (i := 172) (by decide +kernel))) (by decide +kernel)
theorem ky_7 : Cond.methodLink RX12 424 yX12_carryOutAll ∈ lwG := lwG_of (tb_8 (List.mem_of_getElem? (i := 36) (by decide +kernel))) (by decide +kernel)
theorem ky_8 : Cond.fieldLink RX12 29 "RingTransit" "history" "LRingTransit$History;" ∈ lwG := lwG_of (tb_2 (List.mem_of_getElem? (i := 137) (by decide +kernel))) (by decide +kernel)
theorem ky_9 : Cond.methodLink RX12 86 yX6_keep ∈ lwG := lwG_of (tb_2 (List.mem_of_getElem? (i := 177) (by decide +kernel))) (by decide +kernel)
theorem ky_10 : Cond.fieldLink RX12 429 "RingTransit$Script" "count" "I" ∈ lwG := lwG_of (tb_2 (List.mem_of_getElem? (i := 81) (by decide +kernel))) (by decide +kernel)
theorem ky_11 : Cond.fieldLink RX12 68 "RingTransit" "failedIndex" "I" ∈ lwG := lwG_of (tb_2 (List.mem_of_getElem? (i := 144) (by decide +kernel))) (by decide +kernel)
theorem ky_12 : Cond.classLink RX12 405 "java/lang/IllegalStateException" ∈ lwG := lwG_of (tb_4 (List.mem_of_getElem? (i := 51) (by decide +kernel))) (by decide +kernel)
theorem ky_13 : Cond.initialized "java/lang/IllegalStateException" ∈ lwG := lwG_of (tb_1 (List.mem_of_getElem? (i := 25) (by decide +kernel))) (by decide +kernel)
theorem ky_14 : Cond.fieldLink RX12 416 "RingTransit$Script" "error" "I" ∈ lwG := lwG_of (tb_2 (List.mem_of_getElem? (i := 83) (by decide +kernel))) (by decide +kernel)
theorem ky_15 : Cond.fieldLink RX12 64 "RingTransit" "errorIndex" "I" ∈ lwG := lwG_of (tb_2 (List.mem_of_getElem? (i := 143) (by decide +kernel))) (by decide +kernel)
theorem ky_16 : Cond.classLink RX12 398 "java/lang/IllegalArgumentException" ∈ lwG := lwG_of (tb_4 (List.mem_of_getElem? (i := 35) (by decide +kernel))) (by decide +kernel)
theorem ky_17 : Cond.initialized "java/lang/IllegalArgumentException" ∈ lwG := lwG_of (tb_1 (List.mem_of_getElem? (i := 24) (by decide +kernel))) (by decide +kernel)
theorem ky_18 : Cond.initialized RX12 ∈ lwG := lwG_of (tb_1 (List.mem_of_getElem? (i := 1) (by decide +kernel))) (by decide +kernel)
theorem ky_19 : Cond.instanceMethod yX12_runScript ∈ lwG := lwG_of (tb_7 (List.mem_of_getElem? (i := 230) (by decide +kernel))) (by decide +kernel)
theorem ky_20 : Cond.selects yX12_runScript.cls yX12_runScript yX12_runScript ∈ lwG := lwG_of (tb_7 (List.mem_of_getElem? (i := 231) (by decide +kernel))) (by decide +kernel)
abbrev rm_X12_runScript : Room := ⟨7, 1, 6, 211⟩
theorem cm_X12_runScript : cmV yX12_runScript cX12_runScript 3 (some .int) 0 := ⟨ky_0, ky_18, ⟨by decide +kernel, by decide +kernel, by decide +kernel⟩, ky_19, ky_20⟩
def f_X12_runScript (N : Nat) (σ : Sm) : Option (So Sm) :=
  (f_X9_parse N σ 386).bind fun v1 => bl (upm v1.1 386 1 0) fun s2 => (if v1.2 = 0 then bl (upm s2 0 10 (s2 386 3)) fun s12 => some (s12, 2, 0) else (f_X8_copyFrom N s2 34 1).bind fun s4 => (f_X12_carryOutAll N s4).bind fun v5 => (if v5.2 = (-1) then (f_X6_keep N v5.1 100 34).bind fun s7 => some (s7, 0, (s7 386 2)) else (f_X8_copyFrom N v5.1 1 34).bind fun s9 => bl (upm s9 0 11 v5.2) fun s10 => some (s10, 3, 0)))
theorem ct_X12_runScript {l : Launch} {cy : Nat → ClassId} {ad : Nat → Nat} {E : Nat → Nat → Nat} {G : va_G} {Z : vZ} {sa : Nat → Nat} (zk : Zk Z E) (zy : Zy Z E sa) (zs : ZS Z E) (hst : l.stackTraces = false) (N : Nat) (σ : Sm) (hw : wfc σ) (o : So Sm) (h : f_X12_runScript N σ = some o) : CxI Z l yX12_runScript cX12_runScript 3 (some .int) rm_X12_runScript (wlc cy ad E) wfc G (tyc cy) [.ref (ad 0)] σ o := by
  refine cxI_of zk.1 zy.1 hst (by decide) (Nat.le_of_ble_eq_true rfl) hw o h (fun X A Q hZ hX C => ?_)
  replace hst : X.2.1.stackTraces = false := by rw [hX]; exact hst
  replace C : Cx X (Yc cy ad E G A 3 Q) cX12_runScript RX12 (some .int) rm_X12_runScript (tyc cy) := C
  replace hZ : Zx Z X (Yc cy ad E G A 3 Q) := hZ
  show T X (Yc cy ad E G A 3 Q) (fun w => EndXI X (Yc cy ad E G A 3 Q) cX12_runScript rm_X12_runScript .int w ∧ EndX X (Yc cy ad E G A 3 Q) cX12_runScript RX12 rm_X12_runScript w) 0 0 0 [(0, .ref (ad 0))] [] σ (f_X12_runScript N σ)
  unfold f_X12_runScript
  refine T_aload_n (pc := 0) C dX12_runScript_0 rfl 0 rfl ?_
  refine Tc_getr (pc := 1) C 0 12 9 13 (rfl : kd 0 = 12) (by decide) (fun _ => rfl) rfl inX12 (by decide) (v := .ref (ad 386)) rfl ky_1 dX12_runScript_1 ?_
  refine T_czVi (pc := 4) zk.1 hZ C [] [] (fun o h9 hw => ct_X9_parse zk zy.2.2.1 zs N σ 386 (rfl : kd 386 = 9) hw o h9) ky_2 cm_X9_parse (rcc (rfl : kd 386 = 9) (by decide) (fun _ => rfl) rfl) rfl rfl (Nat.le_of_ble_eq_true rfl) (by decide) (a' := 0) (b' := 0) ⟨rfl, rfl⟩ dX12_runScript_4 (fun v1 hv1 => ?_)
  refine T_istore_n (pc := 7) (L' := [(1, vi v1.2), (0, .ref (ad 0))]) C dX12_runScript_7 rfl (Nat.le_of_ble_eq_true rfl) rfl ?_
  refine T_aload_n (pc := 8) C dX12_runScript_8 rfl 1 rfl ?_
  refine Tc_getr (pc := 9) C 0 12 9 13 (rfl : kd 0 = 12) (by decide) (fun _ => rfl) rfl inX12 (by decide) (v := .ref (ad 386)) rfl ky_1 dX12_runScript_9 ?_
  refine T_iconst (pc := 12) C dX12_runScript_12 ?_
  refine Tc_put (pc := 13) C (ty := .int) 386 9 1 6 (rfl : kd 386 = 9) (by decide) (fun _ => rfl) rfl inX9 (by decide) (fun _ => rfl) (rngL rfl) tyX9 tyX9_ok nmX9 rfl (Nat.le_of_ble_eq_true rfl) ky_3 rfl (nar_I _) (fit_I _) dX12_runScript_13 ?_
  refine T_blS (fun s2 => ?_)
  refine T_iload_n (pc := 16) C dX12_runScript_16 rfl 0 rfl ?_
  refine T_if_ne (pc := 17) C 42 dX12_runScript_17 rfl hv1.1 (fun c3 => ?_) (fun c3 => ?_)
  · refine T_aload_n (pc := 42) C dX12_runScript_42 rfl 1 rfl ?_
    refine Tc_getr (pc := 43) C 0 12 1 13 (rfl : kd 0 = 12) (by decide) (fun _ => rfl) rfl inX12 (by decide) (v := .ref (ad 34)) rfl ky_4 dX12_runScript_43 ?_
    refine T_aload_n (pc := 46) C dX12_runScript_46 rfl 1 rfl ?_
    refine Tc_getr (pc := 47) C 0 12 0 13 (rfl : kd 0 = 12) (by decide) (fun _ => rfl) rfl inX12 (by decide) (v := .ref (ad 1)) rfl ky_5 dX12_runScript_47 ?_
    refine T_czVv (pc := 50) zk.1 hZ C [.ref (ad 1)] [] (fun o h9 hw => ct_X8_copyFrom zk N s2 34 1 (rfl : kd 34 = 8) (rfl : kd 1 = 8) hw o h9) ky_6 cm_X8_copyFrom (rcc (rfl : kd 34 = 8) (by decide) (fun _ => rfl) rfl) rfl rfl (Nat.le_of_ble_eq_true rfl) (by decide) (a' := 0) (b' := 0) ⟨rfl, rfl⟩ dX12_runScript_50 (fun s4 => ?_)
    refine T_aload_n (pc := 53) C dX12_runScript_53 rfl 1 rfl ?_
    refine T_czVi (pc := 54) zk.1 hZ C [] [] (fun o h9 hw => ct_X12_carryOutAll zk zy N s4 hw o h9) ky_7 cm_X12_carryOutAll (rcc (rfl : kd 0 = 12) (by decide) (fun _ => rfl) rfl) rfl rfl (Nat.le_of_ble_eq_true rfl) (by decide) (a' := 0) (b' := 0) ⟨rfl, rfl⟩ dX12_runScript_54 (fun v5 hv5 => ?_)
    refine T_istore_n (pc := 57) (L' := [(2, vi v5.2), (1, vi v1.2), (0, .ref (ad 0))]) C dX12_runScript_57 rfl (Nat.le_of_ble_eq_true rfl) rfl ?_
    refine T_iload_n (pc := 58) C dX12_runScript_58 rfl 0 rfl ?_
    refine T_iconst (pc := 59) C dX12_runScript_59 ?_
    refine T_icmp_eq (pc := 60) C 90 dX12_runScript_60 rfl hv5.1 (rngL rfl) (fun c6 => ?_) (fun c6 => ?_)
    · refine T_aload_n (pc := 90) C dX12_runScript_90 rfl 2 rfl ?_
      refine Tc_getr (pc := 91) C 0 12 4 13 (rfl : kd 0 = 12) (by decide) (fun _ => rfl) rfl inX12 (by decide) (v := .ref (ad 100)) rfl ky_8 dX12_runScript_91 ?_
      refine T_aload_n (pc := 94) C dX12_runScript_94 rfl 2 rfl ?_
      refine Tc_getr (pc := 95) C 0 12 1 13 (rfl : kd 0 = 12) (by decide) (fun _ => rfl) rfl inX12 (by decide) (v := .ref (ad 34)) rfl ky_4 dX12_runScript_95 ?_
      refine T_czVv (pc := 98) zk.1 hZ C [.ref (ad 34)] [] (fun o h9 hw => ct_X6_keep zk N v5.1 100 34 (rfl : kd 100 = 6) (rfl : kd 34 = 8) hw o h9) ky_9 cm_X6_keep (rcc (rfl : kd 100 = 6) (by decide) (fun _ => rfl) rfl) rfl rfl (Nat.le_of_ble_eq_true rfl) (by decide) (a' := 0) (b' := 0) ⟨rfl, rfl⟩ dX12_runScript_98 (fun s7 => ?_)
      refine T_aload_n (pc := 101) C dX12_runScript_101 rfl 2 rfl ?_
      refine Tc_getr (pc := 102) C 0 12 9 13 (rfl : kd 0 = 12) (by decide) (fun _ => rfl) rfl inX12 (by decide) (v := .ref (ad 386)) rfl ky_1 dX12_runScript_102 ?_
      refine Tc_geti (pc := 105) C 386 9 2 6 (rfl : kd 386 = 9) (by decide) (fun _ => rfl) rfl inX9 (by decide) rfl ky_10 dX12_runScript_105 (fun z8 => ?_)
      exact T_xiret (pc := 108) (s7, 0, (s7 386 2)) (s7, 0, (s7 386 2)) rfl (fun h9 => h9.1) z8 (nar_I _) (by decide) dX12_runScript_108
    · refine T_aload_n (pc := 63) C dX12_runScript_63 rfl 2 rfl ?_
      refine Tc_getr (pc := 64) C 0 12 0 13 (rfl : kd 0 = 12) (by decide) (fun _ => rfl) rfl inX12 (by decide) (v := .ref (ad 1)) rfl ky_5 dX12_runScript_64 ?_
      refine T_aload_n (pc := 67) C dX12_runScript_67 rfl 2 rfl ?_
      refine Tc_getr (pc := 68) C 0 12 1 13 (rfl : kd 0 = 12) (by decide) (fun _ => rfl) rfl inX12 (by decide) (v := .ref (ad 34)) rfl ky_4 dX12_runScript_68 ?_
      refine T_czVv (pc := 71) zk.1 hZ C [.ref (ad 34)] [] (fun o h9 hw => ct_X8_copyFrom zk N v5.1 1 34 (rfl : kd 1 = 8) (rfl : kd 34 = 8) hw o h9) ky_6 cm_X8_copyFrom (rcc (rfl : kd 1 = 8) (by decide) (fun _ => rfl) rfl) rfl rfl (Nat.le_of_ble_eq_true rfl) (by decide) (a' := 0) (b' := 0) ⟨rfl, rfl⟩ dX12_runScript_71 (fun s9 => ?_)
      refine T_aload_n (pc := 74) C dX12_runScript_74 rfl 2 rfl ?_
      refine T_iload_n (pc := 75) C dX12_runScript_75 rfl 0 rfl ?_
      refine Tc_put (pc := 76) C (ty := .int) 0 12 11 13 (rfl : kd 0 = 12) (by decide) (fun _ => rfl) rfl inX12 (by decide) (fun _ => rfl) ⟨hv5.1, fun e9 => absurd e9 (by decide)⟩ tyX12 tyX12_ok nmX12 rfl (Nat.le_of_ble_eq_true rfl) ky_11 rfl (nar_I _) (fit_I _) dX12_runScript_76 ?_
      refine T_blS (fun s10 => ?_)
      exact T_throw (pc := 79) 3 (s10, 3, 0) (fun h9 => h9.2) (by decide) (sa 427) "a command failed" "java/lang/IllegalStateException" rfl ["java/lang/RuntimeException", "java/lang/Exception"] (by decide +kernel) (by decide +kernel) ky_12 ky_13 (zy.2.1 _ _ _ hZ (427, "a command failed") (List.mem_of_getElem? (i := 16) rfl)) (xn_at zy hZ xr_0) (by decide) (by decide) (by decide) dX12_runScript_79 dX12_runScript_82 (Or.inr ⟨dX12_runScript_83, dX12_runScript_86, dX12_runScript_89⟩)
  · refine T_aload_n (pc := 20) C dX12_runScript_20 rfl 1 rfl ?_
    refine T_aload_n (pc := 21) C dX12_runScript_21 rfl 1 rfl ?_
    refine Tc_getr (pc := 22) C 0 12 9 13 (rfl : kd 0 = 12) (by decide) (fun _ => rfl) rfl inX12 (by decide) (v := .ref (ad 386)) rfl ky_1 dX12_runScript_22 ?_
    refine Tc_geti (pc := 25) C 386 9 3 6 (rfl : kd 386 = 9) (by decide) (fun _ => rfl) rfl inX9 (by decide) rfl ky_14 dX12_runScript_25 (fun z11 => ?_)
    refine Tc_put (pc := 28) C (ty := .int) 0 12 10 13 (rfl : kd 0 = 12) (by decide) (fun _ => rfl) rfl inX12 (by decide) (fun _ => rfl) ⟨z11, fun e9 => absurd e9 (by decide)⟩ tyX12 tyX12_ok nmX12 rfl (Nat.le_of_ble_eq_true rfl) ky_15 rfl (nar_I _) (fit_I _) dX12_runScript_28 ?_
    refine T_blS (fun s12 => ?_)
    exact T_throw (pc := 31) 2 (s12, 2, 0) (fun h9 => h9.2) (by decide) (sa 419) "the script does not have the required form" "java/lang/IllegalArgumentException" rfl ["java/lang/RuntimeException", "java/lang/Exception"] (by decide +kernel) (by decide +kernel) ky_16 ky_17 (zy.2.1 _ _ _ hZ (419, "the script does not have the required form") (List.mem_of_getElem? (i := 15) rfl)) (xn_at zy hZ xr_1) (by decide) (by decide) (by decide) dX12_runScript_31 dX12_runScript_34 (Or.inr ⟨dX12_runScript_35, dX12_runScript_38, dX12_runScript_41⟩)
