abbrev rm_X12_refuse : Room := ⟨6, 1, 6, 82⟩
theorem cm_X12_refuse : cmS yX12_refuse cX12_refuse 1 none 1 := ⟨kx_55, kx_82, ⟨by decide +kernel, by decide +kernel, by decide +kernel⟩, kx_83⟩
def f_X12_refuse (σ : Sm) (x0 : Int) : Option (So Sm) :=
  (if (swf x0) = 1 then some (σ, 1, 0) else (if (swf x0) = 2 then some (σ, 2, 0) else (if (swf x0) = 3 then some (σ, 3, 0) else (if (swf x0) = 4 then some (σ, 4, 0) else (if (swf x0) = 5 then some (σ, 5, 0) else some (σ, 0, 0))))))
theorem ct_X12_refuse {l : Launch} {cy : Nat → ClassId} {ad : Nat → Nat} {E : Nat → Nat → Nat} {G : va_G} {Z : vZ} {sa : Nat → Nat} (zk : Zk Z E) (zy : Zy Z E sa) (hst : l.stackTraces = false) (σ : Sm) (x0 : Int) (h0 : 0 ≤ x0 ∧ x0 < 6) (hw : wfc σ) (o : So Sm) (h : f_X12_refuse σ x0 = some o) : CxV Z l yX12_refuse cX12_refuse 1 rm_X12_refuse (wlc cy ad E) wfc G (tyc cy) [ve E 0 x0] σ o := by
  refine cxV_of zk.1 zy.1 hst (by decide) (Nat.le_of_ble_eq_true rfl) hw o h (fun X A Q hZ hX C => ?_)
  replace hst : X.2.1.stackTraces = false := by rw [hX]; exact hst
  replace C : Cx X (Yc cy ad E G A 1 Q) cX12_refuse RX12 none rm_X12_refuse (tyc cy) := C
  replace hZ : Zx Z X (Yc cy ad E G A 1 Q) := hZ
  show T X (Yc cy ad E G A 1 Q) (fun w => EndXV X (Yc cy ad E G A 1 Q) cX12_refuse rm_X12_refuse w ∧ EndX X (Yc cy ad E G A 1 Q) cX12_refuse RX12 rm_X12_refuse w) 0 0 0 [(0, ve E 0 x0)] [] σ (f_X12_refuse σ x0)
  unfold f_X12_refuse
  refine T_gettF zy.2.2.2.1 hZ (pc := 0) C kx_64 dX12_refuse_0 ?_
  refine T_aload_n (pc := 3) C dX12_refuse_3 rfl 0 rfl ?_
  refine T_ord (pc := 4) zk.2 zk.1 hZ C [.ref (E 2 0)] (ordF_v h0).1 (ordF_v h0).2.1 (ordF_v h0).2.2 kx_65 kx_66 kx_67 kx_68 kx_69 kx_70 kx_71 (Nat.le_of_ble_eq_true rfl) (by decide) dX12_refuse_4 ?_
  refine T_taldF zy.2.2.2.1 hZ (pc := 7) C h0 dX12_refuse_7 ?_
  refine T_ite (fun c1 => ?_) (fun c1 => ?_)
  · refine T_tswIn (pc := 8) C 1 c1 (rngL rfl) 44 dX12_refuse_8 (by decide) (by decide) rfl rfl ?_
    exact T_throw (pc := 44) 1 (σ, 1, 0) (fun h9 => h9.2) (by decide) (sa 452) "no such stop or line" "java/lang/IndexOutOfBoundsException" rfl ["java/lang/RuntimeException", "java/lang/Exception"] (by decide +kernel) (by decide +kernel) kx_72 kx_73 (zy.2.1 _ _ _ hZ (452, "no such stop or line") (List.mem_of_getElem? (i := 0) rfl)) (xn_at zy hZ xa_0) (by decide) (by decide) (by decide) dX12_refuse_44 dX12_refuse_47 (Or.inr ⟨dX12_refuse_48, dX12_refuse_51, dX12_refuse_54⟩)
  refine T_ite (fun c2 => ?_) (fun c2 => ?_)
  · refine T_tswIn (pc := 8) C 2 c2 (rngL rfl) 55 dX12_refuse_8 (by decide) (by decide) rfl rfl ?_
    exact T_throw (pc := 55) 2 (σ, 2, 0) (fun h9 => h9.2) (by decide) (sa 454) "an argument is out of its range" "java/lang/IllegalArgumentException" rfl ["java/lang/RuntimeException", "java/lang/Exception"] (by decide +kernel) (by decide +kernel) kx_74 kx_75 (zy.2.1 _ _ _ hZ (454, "an argument is out of its range") (List.mem_of_getElem? (i := 1) rfl)) (xn_at zy hZ xa_1) (by decide) (by decide) (by decide) dX12_refuse_55 dX12_refuse_58 (Or.inr ⟨dX12_refuse_59, dX12_refuse_62, dX12_refuse_65⟩)
  refine T_ite (fun c3 => ?_) (fun c3 => ?_)
  · refine T_tswIn (pc := 8) C 3 c3 (rngL rfl) 66 dX12_refuse_8 (by decide) (by decide) rfl rfl ?_
    exact T_throw (pc := 66) 3 (σ, 3, 0) (fun h9 => h9.2) (by decide) (sa 456) "not possible now" "java/lang/IllegalStateException" rfl ["java/lang/RuntimeException", "java/lang/Exception"] (by decide +kernel) (by decide +kernel) kx_76 kx_77 (zy.2.1 _ _ _ hZ (456, "not possible now") (List.mem_of_getElem? (i := 2) rfl)) (xn_at zy hZ xa_2) (by decide) (by decide) (by decide) dX12_refuse_66 dX12_refuse_69 (Or.inr ⟨dX12_refuse_70, dX12_refuse_73, dX12_refuse_76⟩)
  refine T_ite (fun c4 => ?_) (fun c4 => ?_)
  · refine T_tswIn (pc := 8) C 4 c4 (rngL rfl) 77 dX12_refuse_8 (by decide) (by decide) rfl rfl ?_
    exact T_throwN (pc := 77) (σ, 4, 0) (fun h9 => h9.2) (sa 458) "there is no such element" kx_78 kx_79 (zy.2.1 _ _ _ hZ (458, "there is no such element") (List.mem_of_getElem? (i := 3) rfl)) (xn_at zy hZ xa_3) (by decide) (by decide) (by decide) dX12_refuse_77 dX12_refuse_80 (Or.inr ⟨dX12_refuse_81, dX12_refuse_84, dX12_refuse_87⟩)
  refine T_ite (fun c5 => ?_) (fun c5 => ?_)
  · refine T_tswIn (pc := 8) C 5 c5 (rngL rfl) 88 dX12_refuse_8 (by decide) (by decide) rfl rfl ?_
    exact T_throw (pc := 88) 5 (σ, 5, 0) (fun h9 => h9.2) (by decide) (sa 462) "not possible for this stop or ride" "java/lang/UnsupportedOperationException" rfl ["java/lang/RuntimeException", "java/lang/Exception"] (by decide +kernel) (by decide +kernel) kx_80 kx_81 (zy.2.1 _ _ _ hZ (462, "not possible for this stop or ride") (List.mem_of_getElem? (i := 4) rfl)) (xn_at zy hZ xa_4) (by decide) (by decide) (by decide) dX12_refuse_88 dX12_refuse_91 (Or.inr ⟨dX12_refuse_92, dX12_refuse_95, dX12_refuse_98⟩)
  refine T_tswOut (pc := 8) C (swf_rng _) 99 dX12_refuse_8 (by omega) rfl ?_
  exact T_xvret (pc := 99) (σ, 0, 0) (σ, 0, 0) rfl (fun h9 => h9.1) (by decide) dX12_refuse_99

abbrev rm_X12_addStop : Room := ⟨7, 1, 6, 128⟩
theorem cm_X12_addStop : cmV yX12_addStop cX12_addStop 2 (some .int) 1 := ⟨kx_0, kx_82, ⟨by decide +kernel, by decide +kernel, by decide +kernel⟩, kx_90, kx_91⟩
def f_X12_addStop (N : Nat) (σ : Sm) (x1 : Int) : Option (So Sm) :=
  (f_X8_stopFault σ 1 x1).bind fun v1 => (f_X12_refuse σ v1).bind fun v2 => if v2.2.1 = 0 then (f_X6_keep N v2.1 100 1).bind fun s3 => (f_X8_putStop s3 1 x1).bind fun v4 => some (v4.1, 0, v4.2) else some (xw v2)
theorem ct_X12_addStop {l : Launch} {cy : Nat → ClassId} {ad : Nat → Nat} {E : Nat → Nat → Nat} {G : va_G} {Z : vZ} {sa : Nat → Nat} (zk : Zk Z E) (zy : Zy Z E sa) (hst : l.stackTraces = false) (N : Nat) (σ : Sm) (x1 : Int) (h1 : rng x1) (hw : wfc σ) (o : So Sm) (h : f_X12_addStop N σ x1 = some o) : CxI Z l yX12_addStop cX12_addStop 2 (some .int) rm_X12_addStop (wlc cy ad E) wfc G (tyc cy) [.ref (ad 0), vi x1] σ o := by
  refine cxI_of zk.1 zy.1 hst (by decide) (Nat.le_of_ble_eq_true rfl) hw o h (fun X A Q hZ hX C => ?_)
  replace hst : X.2.1.stackTraces = false := by rw [hX]; exact hst
  replace C : Cx X (Yc cy ad E G A 2 Q) cX12_addStop RX12 (some .int) rm_X12_addStop (tyc cy) := C
  replace hZ : Zx Z X (Yc cy ad E G A 2 Q) := hZ
  show T X (Yc cy ad E G A 2 Q) (fun w => EndXI X (Yc cy ad E G A 2 Q) cX12_addStop rm_X12_addStop .int w ∧ EndX X (Yc cy ad E G A 2 Q) cX12_addStop RX12 rm_X12_addStop w) 0 0 0 [(0, .ref (ad 0)), (1, vi x1)] [] σ (f_X12_addStop N σ x1)
  unfold f_X12_addStop
  refine T_aload_n (pc := 0) C dX12_addStop_0 rfl 0 rfl ?_
  refine Tc_getr (pc := 1) C 0 12 0 13 (rfl : kd 0 = 12) (by decide) (fun _ => rfl) rfl inX12 (by decide) (v := .ref (ad 1)) rfl kx_84 dX12_addStop_1 ?_
  refine T_iload_n (pc := 4) C dX12_addStop_4 rfl 1 rfl ?_
  refine T_czVep (pc := 5) zk.1 hZ C [vi x1] [] (fun o h9 hw => ct_X8_stopFault zk σ 1 x1 (rfl : kd 1 = 8) h1 hw o h9) kx_85 cm_X8_stopFault (rcc (rfl : kd 1 = 8) (by decide) (fun _ => rfl) rfl) rfl rfl (Nat.le_of_ble_eq_true rfl) (by decide) (a' := 0) (b' := 0) ⟨rfl, rfl⟩ dX12_addStop_5 (fun v1 hv1 => ?_)
  refine T_cxSv (pc := 8) zk.1 hZ C [ve E 0 v1] [] (fun o h9 hw => ct_X12_refuse zk zy hst σ v1 hv1 hw o h9) kx_86 cm_X12_refuse rfl rfl (Nat.le_of_ble_eq_true rfl) (by decide) (a' := 1) (b' := 6) ⟨rfl, rfl⟩ dX12_addStop_8 (g := xw) (fun o h9 h8 => (h9.2 h8).1) (fun v2 => ?_)
  refine T_aload_n (pc := 11) C dX12_addStop_11 rfl 0 rfl ?_
  refine Tc_getr (pc := 12) C 0 12 4 13 (rfl : kd 0 = 12) (by decide) (fun _ => rfl) rfl inX12 (by decide) (v := .ref (ad 100)) rfl kx_87 dX12_addStop_12 ?_
  refine T_aload_n (pc := 15) C dX12_addStop_15 rfl 0 rfl ?_
  refine Tc_getr (pc := 16) C 0 12 0 13 (rfl : kd 0 = 12) (by decide) (fun _ => rfl) rfl inX12 (by decide) (v := .ref (ad 1)) rfl kx_84 dX12_addStop_16 ?_
  refine T_czVv (pc := 19) zk.1 hZ C [.ref (ad 1)] [] (fun o h9 hw => ct_X6_keep zk N v2.1 100 1 (rfl : kd 100 = 6) (rfl : kd 1 = 8) hw o h9) kx_88 cm_X6_keep (rcc (rfl : kd 100 = 6) (by decide) (fun _ => rfl) rfl) rfl rfl (Nat.le_of_ble_eq_true rfl) (by decide) (a' := 1) (b' := 6) ⟨rfl, rfl⟩ dX12_addStop_19 (fun s3 => ?_)
  refine T_aload_n (pc := 22) C dX12_addStop_22 rfl 0 rfl ?_
  refine Tc_getr (pc := 23) C 0 12 0 13 (rfl : kd 0 = 12) (by decide) (fun _ => rfl) rfl inX12 (by decide) (v := .ref (ad 1)) rfl kx_84 dX12_addStop_23 ?_
  refine T_iload_n (pc := 26) C dX12_addStop_26 rfl 1 rfl ?_
  refine T_czVi (pc := 27) zk.1 hZ C [vi x1] [] (fun o h9 hw => ct_X8_putStop zk s3 1 x1 (rfl : kd 1 = 8) h1 hw o h9) kx_89 cm_X8_putStop (rcc (rfl : kd 1 = 8) (by decide) (fun _ => rfl) rfl) rfl rfl (Nat.le_of_ble_eq_true rfl) (by decide) (a' := 1) (b' := 6) ⟨rfl, rfl⟩ dX12_addStop_27 (fun v4 hv4 => ?_)
  exact T_xiret (pc := 30) (v4.1, 0, v4.2) (v4.1, 0, v4.2) rfl (fun h9 => h9.1) hv4.1 (nar_I _) (by decide) dX12_addStop_30

abbrev rm_X12_addWalk : Room := ⟨7, 1, 6, 128⟩
theorem cm_X12_addWalk : cmV yX12_addWalk cX12_addWalk 4 (some .int) 3 := ⟨kx_1, kx_82, ⟨by decide +kernel, by decide +kernel, by decide +kernel⟩, kx_94, kx_95⟩
def f_X12_addWalk (N : Nat) (σ : Sm) (x1 : Int) (x2 : Int) (x3 : Int) : Option (So Sm) :=
  (f_X8_walkFault σ 1 x1 x2 x3).bind fun v1 => (f_X12_refuse σ v1).bind fun v2 => if v2.2.1 = 0 then (f_X6_keep N v2.1 100 1).bind fun s3 => (f_X8_putWalk s3 1 x1 x2 x3).bind fun v4 => some (v4.1, 0, v4.2) else some (xw v2)
theorem ct_X12_addWalk {l : Launch} {cy : Nat → ClassId} {ad : Nat → Nat} {E : Nat → Nat → Nat} {G : va_G} {Z : vZ} {sa : Nat → Nat} (zk : Zk Z E) (zy : Zy Z E sa) (hst : l.stackTraces = false) (N : Nat) (σ : Sm) (x1 : Int) (x2 : Int) (x3 : Int) (h1 : rng x1) (h2 : rng x2) (h3 : rng x3) (hw : wfc σ) (o : So Sm) (h : f_X12_addWalk N σ x1 x2 x3 = some o) : CxI Z l yX12_addWalk cX12_addWalk 4 (some .int) rm_X12_addWalk (wlc cy ad E) wfc G (tyc cy) [.ref (ad 0), vi x1, vi x2, vi x3] σ o := by
  refine cxI_of zk.1 zy.1 hst (by decide) (Nat.le_of_ble_eq_true rfl) hw o h (fun X A Q hZ hX C => ?_)
  replace hst : X.2.1.stackTraces = false := by rw [hX]; exact hst
  replace C : Cx X (Yc cy ad E G A 4 Q) cX12_addWalk RX12 (some .int) rm_X12_addWalk (tyc cy) := C
  replace hZ : Zx Z X (Yc cy ad E G A 4 Q) := hZ
  show T X (Yc cy ad E G A 4 Q) (fun w => EndXI X (Yc cy ad E G A 4 Q) cX12_addWalk rm_X12_addWalk .int w ∧ EndX X (Yc cy ad E G A 4 Q) cX12_addWalk RX12 rm_X12_addWalk w) 0 0 0 [(0, .ref (ad 0)), (1, vi x1), (2, vi x2), (3, vi x3)] [] σ (f_X12_addWalk N σ x1 x2 x3)
  unfold f_X12_addWalk
  refine T_aload_n (pc := 0) C dX12_addWalk_0 rfl 0 rfl ?_
  refine Tc_getr (pc := 1) C 0 12 0 13 (rfl : kd 0 = 12) (by decide) (fun _ => rfl) rfl inX12 (by decide) (v := .ref (ad 1)) rfl kx_84 dX12_addWalk_1 ?_
  refine T_iload_n (pc := 4) C dX12_addWalk_4 rfl 1 rfl ?_
  refine T_iload_n (pc := 5) C dX12_addWalk_5 rfl 2 rfl ?_
  refine T_iload_n (pc := 6) C dX12_addWalk_6 rfl 3 rfl ?_
  refine T_czVep (pc := 7) zk.1 hZ C [vi x1, vi x2, vi x3] [] (fun o h9 hw => ct_X8_walkFault zk σ 1 x1 x2 x3 (rfl : kd 1 = 8) h1 h2 h3 hw o h9) kx_92 cm_X8_walkFault (rcc (rfl : kd 1 = 8) (by decide) (fun _ => rfl) rfl) rfl rfl (Nat.le_of_ble_eq_true rfl) (by decide) (a' := 0) (b' := 0) ⟨rfl, rfl⟩ dX12_addWalk_7 (fun v1 hv1 => ?_)
  refine T_cxSv (pc := 10) zk.1 hZ C [ve E 0 v1] [] (fun o h9 hw => ct_X12_refuse zk zy hst σ v1 hv1 hw o h9) kx_86 cm_X12_refuse rfl rfl (Nat.le_of_ble_eq_true rfl) (by decide) (a' := 1) (b' := 6) ⟨rfl, rfl⟩ dX12_addWalk_10 (g := xw) (fun o h9 h8 => (h9.2 h8).1) (fun v2 => ?_)
  refine T_aload_n (pc := 13) C dX12_addWalk_13 rfl 0 rfl ?_
  refine Tc_getr (pc := 14) C 0 12 4 13 (rfl : kd 0 = 12) (by decide) (fun _ => rfl) rfl inX12 (by decide) (v := .ref (ad 100)) rfl kx_87 dX12_addWalk_14 ?_
  refine T_aload_n (pc := 17) C dX12_addWalk_17 rfl 0 rfl ?_
  refine Tc_getr (pc := 18) C 0 12 0 13 (rfl : kd 0 = 12) (by decide) (fun _ => rfl) rfl inX12 (by decide) (v := .ref (ad 1)) rfl kx_84 dX12_addWalk_18 ?_
  refine T_czVv (pc := 21) zk.1 hZ C [.ref (ad 1)] [] (fun o h9 hw => ct_X6_keep zk N v2.1 100 1 (rfl : kd 100 = 6) (rfl : kd 1 = 8) hw o h9) kx_88 cm_X6_keep (rcc (rfl : kd 100 = 6) (by decide) (fun _ => rfl) rfl) rfl rfl (Nat.le_of_ble_eq_true rfl) (by decide) (a' := 1) (b' := 6) ⟨rfl, rfl⟩ dX12_addWalk_21 (fun s3 => ?_)
  refine T_aload_n (pc := 24) C dX12_addWalk_24 rfl 0 rfl ?_
  refine Tc_getr (pc := 25) C 0 12 0 13 (rfl : kd 0 = 12) (by decide) (fun _ => rfl) rfl inX12 (by decide) (v := .ref (ad 1)) rfl kx_84 dX12_addWalk_25 ?_
  refine T_iload_n (pc := 28) C dX12_addWalk_28 rfl 1 rfl ?_
  refine T_iload_n (pc := 29) C dX12_addWalk_29 rfl 2 rfl ?_
  refine T_iload_n (pc := 30) C dX12_addWalk_30 rfl 3 rfl ?_
  refine T_czVi (pc := 31) zk.1 hZ C [vi x1, vi x2, vi x3] [] (fun o h9 hw => ct_X8_putWalk zk s3 1 x1 x2 x3 (rfl : kd 1 = 8) h1 h2 h3 hw o h9) kx_93 cm_X8_putWalk (rcc (rfl : kd 1 = 8) (by decide) (fun _ => rfl) rfl) rfl rfl (Nat.le_of_ble_eq_true rfl) (by decide) (a' := 1) (b' := 6) ⟨rfl, rfl⟩ dX12_addWalk_31 (fun v4 hv4 => ?_)
  exact T_xiret (pc := 34) (v4.1, 0, v4.2) (v4.1, 0, v4.2) rfl (fun h9 => h9.1) hv4.1 (nar_I _) (by decide) dX12_addWalk_34

abbrev rm_X12_removeWalk : Room := ⟨7, 1, 6, 128⟩
theorem cm_X12_removeWalk : cmV yX12_removeWalk cX12_removeWalk 3 (some .int) 2 := ⟨kx_2, kx_82, ⟨by decide +kernel, by decide +kernel, by decide +kernel⟩, kx_98, kx_99⟩
def f_X12_removeWalk (N : Nat) (σ : Sm) (x1 : Int) (x2 : Int) : Option (So Sm) :=
  (f_X8_walkedFault σ 1 x1 x2).bind fun v1 => (f_X12_refuse σ v1).bind fun v2 => if v2.2.1 = 0 then (f_X6_keep N v2.1 100 1).bind fun s3 => (f_X8_dropWalk s3 1 x1 x2).bind fun v4 => some (v4.1, 0, v4.2) else some (xw v2)
theorem ct_X12_removeWalk {l : Launch} {cy : Nat → ClassId} {ad : Nat → Nat} {E : Nat → Nat → Nat} {G : va_G} {Z : vZ} {sa : Nat → Nat} (zk : Zk Z E) (zy : Zy Z E sa) (hst : l.stackTraces = false) (N : Nat) (σ : Sm) (x1 : Int) (x2 : Int) (h1 : rng x1) (h2 : rng x2) (hw : wfc σ) (o : So Sm) (h : f_X12_removeWalk N σ x1 x2 = some o) : CxI Z l yX12_removeWalk cX12_removeWalk 3 (some .int) rm_X12_removeWalk (wlc cy ad E) wfc G (tyc cy) [.ref (ad 0), vi x1, vi x2] σ o := by
  refine cxI_of zk.1 zy.1 hst (by decide) (Nat.le_of_ble_eq_true rfl) hw o h (fun X A Q hZ hX C => ?_)
  replace hst : X.2.1.stackTraces = false := by rw [hX]; exact hst
  replace C : Cx X (Yc cy ad E G A 3 Q) cX12_removeWalk RX12 (some .int) rm_X12_removeWalk (tyc cy) := C
  replace hZ : Zx Z X (Yc cy ad E G A 3 Q) := hZ
  show T X (Yc cy ad E G A 3 Q) (fun w => EndXI X (Yc cy ad E G A 3 Q) cX12_removeWalk rm_X12_removeWalk .int w ∧ EndX X (Yc cy ad E G A 3 Q) cX12_removeWalk RX12 rm_X12_removeWalk w) 0 0 0 [(0, .ref (ad 0)), (1, vi x1), (2, vi x2)] [] σ (f_X12_removeWalk N σ x1 x2)
  unfold f_X12_removeWalk
  refine T_aload_n (pc := 0) C dX12_removeWalk_0 rfl 0 rfl ?_
  refine Tc_getr (pc := 1) C 0 12 0 13 (rfl : kd 0 = 12) (by decide) (fun _ => rfl) rfl inX12 (by decide) (v := .ref (ad 1)) rfl kx_84 dX12_removeWalk_1 ?_
  refine T_iload_n (pc := 4) C dX12_removeWalk_4 rfl 1 rfl ?_
  refine T_iload_n (pc := 5) C dX12_removeWalk_5 rfl 2 rfl ?_
  refine T_czVep (pc := 6) zk.1 hZ C [vi x1, vi x2] [] (fun o h9 hw => ct_X8_walkedFault zk σ 1 x1 x2 (rfl : kd 1 = 8) h1 h2 hw o h9) kx_96 cm_X8_walkedFault (rcc (rfl : kd 1 = 8) (by decide) (fun _ => rfl) rfl) rfl rfl (Nat.le_of_ble_eq_true rfl) (by decide) (a' := 0) (b' := 0) ⟨rfl, rfl⟩ dX12_removeWalk_6 (fun v1 hv1 => ?_)
  refine T_cxSv (pc := 9) zk.1 hZ C [ve E 0 v1] [] (fun o h9 hw => ct_X12_refuse zk zy hst σ v1 hv1 hw o h9) kx_86 cm_X12_refuse rfl rfl (Nat.le_of_ble_eq_true rfl) (by decide) (a' := 1) (b' := 6) ⟨rfl, rfl⟩ dX12_removeWalk_9 (g := xw) (fun o h9 h8 => (h9.2 h8).1) (fun v2 => ?_)
  refine T_aload_n (pc := 12) C dX12_removeWalk_12 rfl 0 rfl ?_
  refine Tc_getr (pc := 13) C 0 12 4 13 (rfl : kd 0 = 12) (by decide) (fun _ => rfl) rfl inX12 (by decide) (v := .ref (ad 100)) rfl kx_87 dX12_removeWalk_13 ?_
  refine T_aload_n (pc := 16) C dX12_removeWalk_16 rfl 0 rfl ?_
  refine Tc_getr (pc := 17) C 0 12 0 13 (rfl : kd 0 = 12) (by decide) (fun _ => rfl) rfl inX12 (by decide) (v := .ref (ad 1)) rfl kx_84 dX12_removeWalk_17 ?_
  refine T_czVv (pc := 20) zk.1 hZ C [.ref (ad 1)] [] (fun o h9 hw => ct_X6_keep zk N v2.1 100 1 (rfl : kd 100 = 6) (rfl : kd 1 = 8) hw o h9) kx_88 cm_X6_keep (rcc (rfl : kd 100 = 6) (by decide) (fun _ => rfl) rfl) rfl rfl (Nat.le_of_ble_eq_true rfl) (by decide) (a' := 1) (b' := 6) ⟨rfl, rfl⟩ dX12_removeWalk_20 (fun s3 => ?_)
  refine T_aload_n (pc := 23) C dX12_removeWalk_23 rfl 0 rfl ?_
  refine Tc_getr (pc := 24) C 0 12 0 13 (rfl : kd 0 = 12) (by decide) (fun _ => rfl) rfl inX12 (by decide) (v := .ref (ad 1)) rfl kx_84 dX12_removeWalk_24 ?_
  refine T_iload_n (pc := 27) C dX12_removeWalk_27 rfl 1 rfl ?_
  refine T_iload_n (pc := 28) C dX12_removeWalk_28 rfl 2 rfl ?_
  refine T_czVi (pc := 29) zk.1 hZ C [vi x1, vi x2] [] (fun o h9 hw => ct_X8_dropWalk zk s3 1 x1 x2 (rfl : kd 1 = 8) h1 h2 hw o h9) kx_97 cm_X8_dropWalk (rcc (rfl : kd 1 = 8) (by decide) (fun _ => rfl) rfl) rfl rfl (Nat.le_of_ble_eq_true rfl) (by decide) (a' := 1) (b' := 6) ⟨rfl, rfl⟩ dX12_removeWalk_29 (fun v4 hv4 => ?_)
  exact T_xiret (pc := 32) (v4.1, 0, v4.2) (v4.1, 0, v4.2) rfl (fun h9 => h9.1) hv4.1 (nar_I _) (by decide) dX12_removeWalk_32

abbrev rm_X12_addLine : Room := ⟨7, 1, 6, 128⟩
theorem cm_X12_addLine : cmV yX12_addLine cX12_addLine 5 (some .int) 4 := ⟨kx_3, kx_82, ⟨by decide +kernel, by decide +kernel, by decide +kernel⟩, kx_102, kx_103⟩
def f_X12_addLine (N : Nat) (σ : Sm) (x1 : Int) (x2 : Int) (x3 : Int) (x4 : Int) : Option (So Sm) :=
  (f_X8_lineFault σ 1 x1 x2 x3 x4).bind fun v1 => (f_X12_refuse σ v1).bind fun v2 => if v2.2.1 = 0 then (f_X6_keep N v2.1 100 1).bind fun s3 => (f_X8_putLine s3 1 x1 x2 x3 x4).bind fun v4 => some (v4.1, 0, v4.2) else some (xw v2)
theorem ct_X12_addLine {l : Launch} {cy : Nat → ClassId} {ad : Nat → Nat} {E : Nat → Nat → Nat} {G : va_G} {Z : vZ} {sa : Nat → Nat} (zk : Zk Z E) (zy : Zy Z E sa) (hst : l.stackTraces = false) (N : Nat) (σ : Sm) (x1 : Int) (x2 : Int) (x3 : Int) (x4 : Int) (h1 : rng x1) (h2 : rng x2) (h3 : rng x3) (h4 : rng x4) (hw : wfc σ) (o : So Sm) (h : f_X12_addLine N σ x1 x2 x3 x4 = some o) : CxI Z l yX12_addLine cX12_addLine 5 (some .int) rm_X12_addLine (wlc cy ad E) wfc G (tyc cy) [.ref (ad 0), vi x1, vi x2, vi x3, vi x4] σ o := by
  refine cxI_of zk.1 zy.1 hst (by decide) (Nat.le_of_ble_eq_true rfl) hw o h (fun X A Q hZ hX C => ?_)
  replace hst : X.2.1.stackTraces = false := by rw [hX]; exact hst
  replace C : Cx X (Yc cy ad E G A 5 Q) cX12_addLine RX12 (some .int) rm_X12_addLine (tyc cy) := C
  replace hZ : Zx Z X (Yc cy ad E G A 5 Q) := hZ
  show T X (Yc cy ad E G A 5 Q) (fun w => EndXI X (Yc cy ad E G A 5 Q) cX12_addLine rm_X12_addLine .int w ∧ EndX X (Yc cy ad E G A 5 Q) cX12_addLine RX12 rm_X12_addLine w) 0 0 0 [(0, .ref (ad 0)), (1, vi x1), (2, vi x2), (3, vi x3), (4, vi x4)] [] σ (f_X12_addLine N σ x1 x2 x3 x4)
  unfold f_X12_addLine
  refine T_aload_n (pc := 0) C dX12_addLine_0 rfl 0 rfl ?_
  refine Tc_getr (pc := 1) C 0 12 0 13 (rfl : kd 0 = 12) (by decide) (fun _ => rfl) rfl inX12 (by decide) (v := .ref (ad 1)) rfl kx_84 dX12_addLine_1 ?_
  refine T_iload_n (pc := 4) C dX12_addLine_4 rfl 1 rfl ?_
  refine T_iload_n (pc := 5) C dX12_addLine_5 rfl 2 rfl ?_
  refine T_iload_n (pc := 6) C dX12_addLine_6 rfl 3 rfl ?_
  refine T_iload (pc := 7) C dX12_addLine_7 4 rfl ?_
  refine T_czVep (pc := 9) zk.1 hZ C [vi x1, vi x2, vi x3, vi x4] [] (fun o h9 hw => ct_X8_lineFault zk σ 1 x1 x2 x3 x4 (rfl : kd 1 = 8) h1 h2 h3 h4 hw o h9) kx_100 cm_X8_lineFault (rcc (rfl : kd 1 = 8) (by decide) (fun _ => rfl) rfl) rfl rfl (Nat.le_of_ble_eq_true rfl) (by decide) (a' := 0) (b' := 0) ⟨rfl, rfl⟩ dX12_addLine_9 (fun v1 hv1 => ?_)
  refine T_cxSv (pc := 12) zk.1 hZ C [ve E 0 v1] [] (fun o h9 hw => ct_X12_refuse zk zy hst σ v1 hv1 hw o h9) kx_86 cm_X12_refuse rfl rfl (Nat.le_of_ble_eq_true rfl) (by decide) (a' := 1) (b' := 6) ⟨rfl, rfl⟩ dX12_addLine_12 (g := xw) (fun o h9 h8 => (h9.2 h8).1) (fun v2 => ?_)
  refine T_aload_n (pc := 15) C dX12_addLine_15 rfl 0 rfl ?_
  refine Tc_getr (pc := 16) C 0 12 4 13 (rfl : kd 0 = 12) (by decide) (fun _ => rfl) rfl inX12 (by decide) (v := .ref (ad 100)) rfl kx_87 dX12_addLine_16 ?_
  refine T_aload_n (pc := 19) C dX12_addLine_19 rfl 0 rfl ?_
  refine Tc_getr (pc := 20) C 0 12 0 13 (rfl : kd 0 = 12) (by decide) (fun _ => rfl) rfl inX12 (by decide) (v := .ref (ad 1)) rfl kx_84 dX12_addLine_20 ?_
  refine T_czVv (pc := 23) zk.1 hZ C [.ref (ad 1)] [] (fun o h9 hw => ct_X6_keep zk N v2.1 100 1 (rfl : kd 100 = 6) (rfl : kd 1 = 8) hw o h9) kx_88 cm_X6_keep (rcc (rfl : kd 100 = 6) (by decide) (fun _ => rfl) rfl) rfl rfl (Nat.le_of_ble_eq_true rfl) (by decide) (a' := 1) (b' := 6) ⟨rfl, rfl⟩ dX12_addLine_23 (fun s3 => ?_)
  refine T_aload_n (pc := 26) C dX12_addLine_26 rfl 0 rfl ?_
  refine Tc_getr (pc := 27) C 0 12 0 13 (rfl : kd 0 = 12) (by decide) (fun _ => rfl) rfl inX12 (by decide) (v := .ref (ad 1)) rfl kx_84 dX12_addLine_27 ?_
  refine T_iload_n (pc := 30) C dX12_addLine_30 rfl 1 rfl ?_
  refine T_iload_n (pc := 31) C dX12_addLine_31 rfl 2 rfl ?_
  refine T_iload_n (pc := 32) C dX12_addLine_32 rfl 3 rfl ?_
  refine T_iload (pc := 33) C dX12_addLine_33 4 rfl ?_
  refine T_czVi (pc := 35) zk.1 hZ C [vi x1, vi x2, vi x3, vi x4] [] (fun o h9 hw => ct_X8_putLine zk s3 1 x1 x2 x3 x4 (rfl : kd 1 = 8) h1 h2 h3 h4 hw o h9) kx_101 cm_X8_putLine (rcc (rfl : kd 1 = 8) (by decide) (fun _ => rfl) rfl) rfl rfl (Nat.le_of_ble_eq_true rfl) (by decide) (a' := 1) (b' := 6) ⟨rfl, rfl⟩ dX12_addLine_35 (fun v4 hv4 => ?_)
  exact T_xiret (pc := 38) (v4.1, 0, v4.2) (v4.1, 0, v4.2) rfl (fun h9 => h9.1) hv4.1 (nar_I _) (by decide) dX12_addLine_38

abbrev rm_X12_extendLine : Room := ⟨7, 1, 6, 128⟩
theorem cm_X12_extendLine : cmV yX12_extendLine cX12_extendLine 3 (some .int) 2 := ⟨kx_4, kx_82, ⟨by decide +kernel, by decide +kernel, by decide +kernel⟩, kx_107, kx_108⟩
def f_X12_extendLine (N : Nat) (σ : Sm) (x1 : Int) (x2 : Int) : Option (So Sm) :=
  (f_X8_extensionFault N σ 1 x1 x2).bind fun v1 => (f_X12_refuse σ v1).bind fun v2 => if v2.2.1 = 0 then (f_X6_keep N v2.1 100 1).bind fun s3 => if 0 ≤ x1 ∧ x1 < 5 then (f_X7_append s3 (1 + 23 + 2 * x1.toNat) x2).bind fun v6 => some (v6.1, 0, v6.2) else none else some (xw v2)
theorem ct_X12_extendLine {l : Launch} {cy : Nat → ClassId} {ad : Nat → Nat} {E : Nat → Nat → Nat} {G : va_G} {Z : vZ} {sa : Nat → Nat} (zk : Zk Z E) (zy : Zy Z E sa) (hst : l.stackTraces = false) (N : Nat) (σ : Sm) (x1 : Int) (x2 : Int) (h1 : rng x1) (h2 : rng x2) (hw : wfc σ) (o : So Sm) (h : f_X12_extendLine N σ x1 x2 = some o) : CxI Z l yX12_extendLine cX12_extendLine 3 (some .int) rm_X12_extendLine (wlc cy ad E) wfc G (tyc cy) [.ref (ad 0), vi x1, vi x2] σ o := by
  refine cxI_of zk.1 zy.1 hst (by decide) (Nat.le_of_ble_eq_true rfl) hw o h (fun X A Q hZ hX C => ?_)
  replace hst : X.2.1.stackTraces = false := by rw [hX]; exact hst
  replace C : Cx X (Yc cy ad E G A 3 Q) cX12_extendLine RX12 (some .int) rm_X12_extendLine (tyc cy) := C
  replace hZ : Zx Z X (Yc cy ad E G A 3 Q) := hZ
  show T X (Yc cy ad E G A 3 Q) (fun w => EndXI X (Yc cy ad E G A 3 Q) cX12_extendLine rm_X12_extendLine .int w ∧ EndX X (Yc cy ad E G A 3 Q) cX12_extendLine RX12 rm_X12_extendLine w) 0 0 0 [(0, .ref (ad 0)), (1, vi x1), (2, vi x2)] [] σ (f_X12_extendLine N σ x1 x2)
  unfold f_X12_extendLine
  refine T_aload_n (pc := 0) C dX12_extendLine_0 rfl 0 rfl ?_
  refine Tc_getr (pc := 1) C 0 12 0 13 (rfl : kd 0 = 12) (by decide) (fun _ => rfl) rfl inX12 (by decide) (v := .ref (ad 1)) rfl kx_84 dX12_extendLine_1 ?_
  refine T_iload_n (pc := 4) C dX12_extendLine_4 rfl 1 rfl ?_
  refine T_iload_n (pc := 5) C dX12_extendLine_5 rfl 2 rfl ?_
  refine T_czVep (pc := 6) zk.1 hZ C [vi x1, vi x2] [] (fun o h9 hw => ct_X8_extensionFault zk N σ 1 x1 x2 (rfl : kd 1 = 8) h1 h2 hw o h9) kx_104 cm_X8_extensionFault (rcc (rfl : kd 1 = 8) (by decide) (fun _ => rfl) rfl) rfl rfl (Nat.le_of_ble_eq_true rfl) (by decide) (a' := 0) (b' := 0) ⟨rfl, rfl⟩ dX12_extendLine_6 (fun v1 hv1 => ?_)
  refine T_cxSv (pc := 9) zk.1 hZ C [ve E 0 v1] [] (fun o h9 hw => ct_X12_refuse zk zy hst σ v1 hv1 hw o h9) kx_86 cm_X12_refuse rfl rfl (Nat.le_of_ble_eq_true rfl) (by decide) (a' := 1) (b' := 6) ⟨rfl, rfl⟩ dX12_extendLine_9 (g := xw) (fun o h9 h8 => (h9.2 h8).1) (fun v2 => ?_)
  refine T_aload_n (pc := 12) C dX12_extendLine_12 rfl 0 rfl ?_
  refine Tc_getr (pc := 13) C 0 12 4 13 (rfl : kd 0 = 12) (by decide) (fun _ => rfl) rfl inX12 (by decide) (v := .ref (ad 100)) rfl kx_87 dX12_extendLine_13 ?_
  refine T_aload_n (pc := 16) C dX12_extendLine_16 rfl 0 rfl ?_
  refine Tc_getr (pc := 17) C 0 12 0 13 (rfl : kd 0 = 12) (by decide) (fun _ => rfl) rfl inX12 (by decide) (v := .ref (ad 1)) rfl kx_84 dX12_extendLine_17 ?_
  refine T_czVv (pc := 20) zk.1 hZ C [.ref (ad 1)] [] (fun o h9 hw => ct_X6_keep zk N v2.1 100 1 (rfl : kd 100 = 6) (rfl : kd 1 = 8) hw o h9) kx_88 cm_X6_keep (rcc (rfl : kd 100 = 6) (by decide) (fun _ => rfl) rfl) rfl rfl (Nat.le_of_ble_eq_true rfl) (by decide) (a' := 1) (b' := 6) ⟨rfl, rfl⟩ dX12_extendLine_20 (fun s3 => ?_)
  refine T_aload_n (pc := 23) C dX12_extendLine_23 rfl 0 rfl ?_
  refine Tc_getr (pc := 24) C 0 12 0 13 (rfl : kd 0 = 12) (by decide) (fun _ => rfl) rfl inX12 (by decide) (v := .ref (ad 1)) rfl kx_84 dX12_extendLine_24 ?_
  refine Tc_getr (pc := 27) C 1 8 8 10 (rfl : kd 1 = 8) (by decide) (fun _ => rfl) rfl inX8 (by decide) (v := .ref (ad 5)) rfl kx_105 dX12_extendLine_27 ?_
  refine T_iload_n (pc := 30) C dX12_extendLine_30 rfl 1 rfl ?_
  refine T_guard (fun g4 => ?_)
  refine Tc_ald27 (pc := 31) C 1 (rfl : kd 1 = 8) g4 dX12_extendLine_31 (fun y5 => ?_)
  refine T_iload_n (pc := 32) C dX12_extendLine_32 rfl 2 rfl ?_
  refine T_czVi (pc := 33) zk.1 hZ C [vi x2] [] (fun o h9 hw => ct_X7_append zk s3 (1 + 23 + 2 * x1.toNat) x2 y5 h2 hw o h9) kx_106 cm_X7_append (rcc y5 (by decide) (fun _ => rfl) rfl) rfl rfl (Nat.le_of_ble_eq_true rfl) (by decide) (a' := 1) (b' := 6) ⟨rfl, rfl⟩ dX12_extendLine_33 (fun v6 hv6 => ?_)
  exact T_xiret (pc := 36) (v6.1, 0, v6.2) (v6.1, 0, v6.2) rfl (fun h9 => h9.1) hv6.1 (nar_I _) (by decide) dX12_extendLine_36

abbrev rm_X12_shortenLine : Room := ⟨7, 1, 6, 128⟩
theorem cm_X12_shortenLine : cmV yX12_shortenLine cX12_shortenLine 2 (some .int) 1 := ⟨kx_5, kx_82, ⟨by decide +kernel, by decide +kernel, by decide +kernel⟩, kx_111, kx_112⟩
def f_X12_shortenLine (N : Nat) (σ : Sm) (x1 : Int) : Option (So Sm) :=
  (f_X8_shorteningFault N σ 1 x1).bind fun v1 => (f_X12_refuse σ v1).bind fun v2 => if v2.2.1 = 0 then (f_X6_keep N v2.1 100 1).bind fun s3 => if 0 ≤ x1 ∧ x1 < 5 then (f_X7_dropLast s3 (1 + 23 + 2 * x1.toNat)).bind fun v6 => some (v6.1, 0, v6.2) else none else some (xw v2)
theorem ct_X12_shortenLine {l : Launch} {cy : Nat → ClassId} {ad : Nat → Nat} {E : Nat → Nat → Nat} {G : va_G} {Z : vZ} {sa : Nat → Nat} (zk : Zk Z E) (zy : Zy Z E sa) (hst : l.stackTraces = false) (N : Nat) (σ : Sm) (x1 : Int) (h1 : rng x1) (hw : wfc σ) (o : So Sm) (h : f_X12_shortenLine N σ x1 = some o) : CxI Z l yX12_shortenLine cX12_shortenLine 2 (some .int) rm_X12_shortenLine (wlc cy ad E) wfc G (tyc cy) [.ref (ad 0), vi x1] σ o := by
  refine cxI_of zk.1 zy.1 hst (by decide) (Nat.le_of_ble_eq_true rfl) hw o h (fun X A Q hZ hX C => ?_)
  replace hst : X.2.1.stackTraces = false := by rw [hX]; exact hst
  replace C : Cx X (Yc cy ad E G A 2 Q) cX12_shortenLine RX12 (some .int) rm_X12_shortenLine (tyc cy) := C
  replace hZ : Zx Z X (Yc cy ad E G A 2 Q) := hZ
  show T X (Yc cy ad E G A 2 Q) (fun w => EndXI X (Yc cy ad E G A 2 Q) cX12_shortenLine rm_X12_shortenLine .int w ∧ EndX X (Yc cy ad E G A 2 Q) cX12_shortenLine RX12 rm_X12_shortenLine w) 0 0 0 [(0, .ref (ad 0)), (1, vi x1)] [] σ (f_X12_shortenLine N σ x1)
  unfold f_X12_shortenLine
  refine T_aload_n (pc := 0) C dX12_shortenLine_0 rfl 0 rfl ?_
  refine Tc_getr (pc := 1) C 0 12 0 13 (rfl : kd 0 = 12) (by decide) (fun _ => rfl) rfl inX12 (by decide) (v := .ref (ad 1)) rfl kx_84 dX12_shortenLine_1 ?_
  refine T_iload_n (pc := 4) C dX12_shortenLine_4 rfl 1 rfl ?_
  refine T_czVep (pc := 5) zk.1 hZ C [vi x1] [] (fun o h9 hw => ct_X8_shorteningFault zk N σ 1 x1 (rfl : kd 1 = 8) h1 hw o h9) kx_109 cm_X8_shorteningFault (rcc (rfl : kd 1 = 8) (by decide) (fun _ => rfl) rfl) rfl rfl (Nat.le_of_ble_eq_true rfl) (by decide) (a' := 0) (b' := 0) ⟨rfl, rfl⟩ dX12_shortenLine_5 (fun v1 hv1 => ?_)
  refine T_cxSv (pc := 8) zk.1 hZ C [ve E 0 v1] [] (fun o h9 hw => ct_X12_refuse zk zy hst σ v1 hv1 hw o h9) kx_86 cm_X12_refuse rfl rfl (Nat.le_of_ble_eq_true rfl) (by decide) (a' := 1) (b' := 6) ⟨rfl, rfl⟩ dX12_shortenLine_8 (g := xw) (fun o h9 h8 => (h9.2 h8).1) (fun v2 => ?_)
  refine T_aload_n (pc := 11) C dX12_shortenLine_11 rfl 0 rfl ?_
  refine Tc_getr (pc := 12) C 0 12 4 13 (rfl : kd 0 = 12) (by decide) (fun _ => rfl) rfl inX12 (by decide) (v := .ref (ad 100)) rfl kx_87 dX12_shortenLine_12 ?_
  refine T_aload_n (pc := 15) C dX12_shortenLine_15 rfl 0 rfl ?_
  refine Tc_getr (pc := 16) C 0 12 0 13 (rfl : kd 0 = 12) (by decide) (fun _ => rfl) rfl inX12 (by decide) (v := .ref (ad 1)) rfl kx_84 dX12_shortenLine_16 ?_
  refine T_czVv (pc := 19) zk.1 hZ C [.ref (ad 1)] [] (fun o h9 hw => ct_X6_keep zk N v2.1 100 1 (rfl : kd 100 = 6) (rfl : kd 1 = 8) hw o h9) kx_88 cm_X6_keep (rcc (rfl : kd 100 = 6) (by decide) (fun _ => rfl) rfl) rfl rfl (Nat.le_of_ble_eq_true rfl) (by decide) (a' := 1) (b' := 6) ⟨rfl, rfl⟩ dX12_shortenLine_19 (fun s3 => ?_)
  refine T_aload_n (pc := 22) C dX12_shortenLine_22 rfl 0 rfl ?_
  refine Tc_getr (pc := 23) C 0 12 0 13 (rfl : kd 0 = 12) (by decide) (fun _ => rfl) rfl inX12 (by decide) (v := .ref (ad 1)) rfl kx_84 dX12_shortenLine_23 ?_
  refine Tc_getr (pc := 26) C 1 8 8 10 (rfl : kd 1 = 8) (by decide) (fun _ => rfl) rfl inX8 (by decide) (v := .ref (ad 5)) rfl kx_105 dX12_shortenLine_26 ?_
  refine T_iload_n (pc := 29) C dX12_shortenLine_29 rfl 1 rfl ?_
  refine T_guard (fun g4 => ?_)
  refine Tc_ald27 (pc := 30) C 1 (rfl : kd 1 = 8) g4 dX12_shortenLine_30 (fun y5 => ?_)
  refine T_czVi (pc := 31) zk.1 hZ C [] [] (fun o h9 hw => ct_X7_dropLast zk s3 (1 + 23 + 2 * x1.toNat) y5 hw o h9) kx_110 cm_X7_dropLast (rcc y5 (by decide) (fun _ => rfl) rfl) rfl rfl (Nat.le_of_ble_eq_true rfl) (by decide) (a' := 1) (b' := 6) ⟨rfl, rfl⟩ dX12_shortenLine_31 (fun v6 hv6 => ?_)
  exact T_xiret (pc := 34) (v6.1, 0, v6.2) (v6.1, 0, v6.2) rfl (fun h9 => h9.1) hv6.1 (nar_I _) (by decide) dX12_shortenLine_34

abbrev rm_X12_setRain : Room := ⟨4, 0, 0, 128⟩
theorem cm_X12_setRain : cmV yX12_setRain cX12_setRain 3 (some .boolean) 1 := ⟨kx_6, kx_82, ⟨by decide +kernel, by decide +kernel, by decide +kernel⟩, kx_114, kx_115⟩
def f_X12_setRain (N : Nat) (σ : Sm) (x1 : Int) : Option (Sm × Int) :=
  (f_X6_keep N σ 100 1).bind fun s1 => bl (s1 1 1) fun v3 => bl (upm s1 1 1 x1) fun s4 => some (s4, v3)
theorem ct_X12_setRain {l : Launch} {cy : Nat → ClassId} {ad : Nat → Nat} {E : Nat → Nat → Nat} {G : va_G} {Z : vZ} {sa : Nat → Nat} (zk : Zk Z E) (zy : Zy Z E sa) (N : Nat) (σ : Sm) (x1 : Int) (h1 : bit x1) (hw : wfc σ) (o : Sm × Int) (h : f_X12_setRain N σ x1 = some o) : CzI Z l yX12_setRain cX12_setRain 3 (some .boolean) rm_X12_setRain (wlc cy ad E) wfc G (tyc cy) [.ref (ad 0), vi x1] σ o.1 o.2 := by
  refine czI_of zk.1 (plainFor_of_name (by decide)) (Nat.le_of_ble_eq_true rfl) hw o o h (fun X Y w => EndI X Y cX12_setRain rm_X12_setRain .boolean w) (fun _ _ h => h) (fun X A Q hZ hX C => ?_)
  replace C : Cx X (Yc cy ad E G A 3 Q) cX12_setRain RX12 (some .boolean) rm_X12_setRain (tyc cy) := C
  replace hZ : Zx Z X (Yc cy ad E G A 3 Q) := hZ
  show T X (Yc cy ad E G A 3 Q) (fun w => EndI X (Yc cy ad E G A 3 Q) cX12_setRain rm_X12_setRain .boolean w) 0 0 0 [(0, .ref (ad 0)), (1, vi x1)] [] σ (f_X12_setRain N σ x1)
  unfold f_X12_setRain
  refine T_aload_n (pc := 0) C dX12_setRain_0 rfl 0 rfl ?_
  refine Tc_getr (pc := 1) C 0 12 4 13 (rfl : kd 0 = 12) (by decide) (fun _ => rfl) rfl inX12 (by decide) (v := .ref (ad 100)) rfl kx_87 dX12_setRain_1 ?_
  refine T_aload_n (pc := 4) C dX12_setRain_4 rfl 0 rfl ?_
  refine Tc_getr (pc := 5) C 0 12 0 13 (rfl : kd 0 = 12) (by decide) (fun _ => rfl) rfl inX12 (by decide) (v := .ref (ad 1)) rfl kx_84 dX12_setRain_5 ?_
  refine T_czVv (pc := 8) zk.1 hZ C [.ref (ad 1)] [] (fun o h9 hw => ct_X6_keep zk N σ 100 1 (rfl : kd 100 = 6) (rfl : kd 1 = 8) hw o h9) kx_88 cm_X6_keep (rcc (rfl : kd 100 = 6) (by decide) (fun _ => rfl) rfl) rfl rfl (Nat.le_of_ble_eq_true rfl) (by decide) (a' := 0) (b' := 0) ⟨rfl, rfl⟩ dX12_setRain_8 (fun s1 => ?_)
  refine T_aload_n (pc := 11) C dX12_setRain_11 rfl 0 rfl ?_
  refine Tc_getr (pc := 12) C 0 12 0 13 (rfl : kd 0 = 12) (by decide) (fun _ => rfl) rfl inX12 (by decide) (v := .ref (ad 1)) rfl kx_84 dX12_setRain_12 ?_
  refine Tc_geti (pc := 15) C 1 8 1 10 (rfl : kd 1 = 8) (by decide) (fun _ => rfl) rfl inX8 (by decide) rfl kx_113 dX12_setRain_15 (fun z2 => ?_)
  refine T_blB (z2.2 rfl) (fun v3 hv3 => ?_)
  refine T_istore_n (pc := 18) (L' := [(2, vi v3), (0, .ref (ad 0)), (1, vi x1)]) C dX12_setRain_18 rfl (Nat.le_of_ble_eq_true rfl) rfl ?_
  refine T_aload_n (pc := 19) C dX12_setRain_19 rfl 1 rfl ?_
  refine Tc_getr (pc := 20) C 0 12 0 13 (rfl : kd 0 = 12) (by decide) (fun _ => rfl) rfl inX12 (by decide) (v := .ref (ad 1)) rfl kx_84 dX12_setRain_20 ?_
  refine T_iload_n (pc := 23) C dX12_setRain_23 rfl 2 rfl ?_
  refine Tc_put (pc := 24) C (ty := .boolean) 1 8 1 10 (rfl : kd 1 = 8) (by decide) (fun _ => rfl) rfl inX8 (by decide) (fun _ => rfl) ⟨bit_rng h1, fun _ => h1⟩ tyX8 tyX8_ok nmX8 rfl (Nat.le_of_ble_eq_true rfl) kx_113 rfl (nar_Z h1) (fit_Z h1) dX12_setRain_24 ?_
  refine T_blS (fun s4 => ?_)
  refine T_iload_n (pc := 27) C dX12_setRain_27 rfl 0 rfl ?_
  exact T_iret (pc := 28) (s4, v3) (fun h9 => h9) (bit_rng hv3) (nar_Z hv3) (by decide) dX12_setRain_28

abbrev rm_X12_setRainDelay : Room := ⟨7, 1, 6, 128⟩
theorem cm_X12_setRainDelay : cmV yX12_setRainDelay cX12_setRainDelay 4 (some .int) 2 := ⟨kx_7, kx_82, ⟨by decide +kernel, by decide +kernel, by decide +kernel⟩, kx_118, kx_119⟩
def f_X12_setRainDelay (N : Nat) (σ : Sm) (x1 : Int) (x2 : Int) : Option (So Sm) :=
  (f_X8_delayFault σ 1 x1 x2).bind fun v1 => (f_X12_refuse σ v1).bind fun v2 => if v2.2.1 = 0 then (f_X6_keep N v2.1 100 1).bind fun s3 => if 0 ≤ x1 ∧ x1 < 5 then bl (s3 (1 + 23 + 2 * x1.toNat) 3) fun v7 => bl (upm s3 (1 + 23 + 2 * x1.toNat) 3 x2) fun s9 => some (s9, 0, v7) else none else some (xw v2)
theorem ct_X12_setRainDelay {l : Launch} {cy : Nat → ClassId} {ad : Nat → Nat} {E : Nat → Nat → Nat} {G : va_G} {Z : vZ} {sa : Nat → Nat} (zk : Zk Z E) (zy : Zy Z E sa) (hst : l.stackTraces = false) (N : Nat) (σ : Sm) (x1 : Int) (x2 : Int) (h1 : rng x1) (h2 : rng x2) (hw : wfc σ) (o : So Sm) (h : f_X12_setRainDelay N σ x1 x2 = some o) : CxI Z l yX12_setRainDelay cX12_setRainDelay 4 (some .int) rm_X12_setRainDelay (wlc cy ad E) wfc G (tyc cy) [.ref (ad 0), vi x1, vi x2] σ o := by
  refine cxI_of zk.1 zy.1 hst (by decide) (Nat.le_of_ble_eq_true rfl) hw o h (fun X A Q hZ hX C => ?_)
  replace hst : X.2.1.stackTraces = false := by rw [hX]; exact hst
  replace C : Cx X (Yc cy ad E G A 4 Q) cX12_setRainDelay RX12 (some .int) rm_X12_setRainDelay (tyc cy) := C
  replace hZ : Zx Z X (Yc cy ad E G A 4 Q) := hZ
  show T X (Yc cy ad E G A 4 Q) (fun w => EndXI X (Yc cy ad E G A 4 Q) cX12_setRainDelay rm_X12_setRainDelay .int w ∧ EndX X (Yc cy ad E G A 4 Q) cX12_setRainDelay RX12 rm_X12_setRainDelay w) 0 0 0 [(0, .ref (ad 0)), (1, vi x1), (2, vi x2)] [] σ (f_X12_setRainDelay N σ x1 x2)
  unfold f_X12_setRainDelay
  refine T_aload_n (pc := 0) C dX12_setRainDelay_0 rfl 0 rfl ?_
  refine Tc_getr (pc := 1) C 0 12 0 13 (rfl : kd 0 = 12) (by decide) (fun _ => rfl) rfl inX12 (by decide) (v := .ref (ad 1)) rfl kx_84 dX12_setRainDelay_1 ?_
  refine T_iload_n (pc := 4) C dX12_setRainDelay_4 rfl 1 rfl ?_
  refine T_iload_n (pc := 5) C dX12_setRainDelay_5 rfl 2 rfl ?_
  refine T_czVep (pc := 6) zk.1 hZ C [vi x1, vi x2] [] (fun o h9 hw => ct_X8_delayFault zk σ 1 x1 x2 (rfl : kd 1 = 8) h1 h2 hw o h9) kx_116 cm_X8_delayFault (rcc (rfl : kd 1 = 8) (by decide) (fun _ => rfl) rfl) rfl rfl (Nat.le_of_ble_eq_true rfl) (by decide) (a' := 0) (b' := 0) ⟨rfl, rfl⟩ dX12_setRainDelay_6 (fun v1 hv1 => ?_)
  refine T_cxSv (pc := 9) zk.1 hZ C [ve E 0 v1] [] (fun o h9 hw => ct_X12_refuse zk zy hst σ v1 hv1 hw o h9) kx_86 cm_X12_refuse rfl rfl (Nat.le_of_ble_eq_true rfl) (by decide) (a' := 1) (b' := 6) ⟨rfl, rfl⟩ dX12_setRainDelay_9 (g := xw) (fun o h9 h8 => (h9.2 h8).1) (fun v2 => ?_)
  refine T_aload_n (pc := 12) C dX12_setRainDelay_12 rfl 0 rfl ?_
  refine Tc_getr (pc := 13) C 0 12 4 13 (rfl : kd 0 = 12) (by decide) (fun _ => rfl) rfl inX12 (by decide) (v := .ref (ad 100)) rfl kx_87 dX12_setRainDelay_13 ?_
  refine T_aload_n (pc := 16) C dX12_setRainDelay_16 rfl 0 rfl ?_
  refine Tc_getr (pc := 17) C 0 12 0 13 (rfl : kd 0 = 12) (by decide) (fun _ => rfl) rfl inX12 (by decide) (v := .ref (ad 1)) rfl kx_84 dX12_setRainDelay_17 ?_
  refine T_czVv (pc := 20) zk.1 hZ C [.ref (ad 1)] [] (fun o h9 hw => ct_X6_keep zk N v2.1 100 1 (rfl : kd 100 = 6) (rfl : kd 1 = 8) hw o h9) kx_88 cm_X6_keep (rcc (rfl : kd 100 = 6) (by decide) (fun _ => rfl) rfl) rfl rfl (Nat.le_of_ble_eq_true rfl) (by decide) (a' := 1) (b' := 6) ⟨rfl, rfl⟩ dX12_setRainDelay_20 (fun s3 => ?_)
  refine T_aload_n (pc := 23) C dX12_setRainDelay_23 rfl 0 rfl ?_
  refine Tc_getr (pc := 24) C 0 12 0 13 (rfl : kd 0 = 12) (by decide) (fun _ => rfl) rfl inX12 (by decide) (v := .ref (ad 1)) rfl kx_84 dX12_setRainDelay_24 ?_
  refine Tc_getr (pc := 27) C 1 8 8 10 (rfl : kd 1 = 8) (by decide) (fun _ => rfl) rfl inX8 (by decide) (v := .ref (ad 5)) rfl kx_105 dX12_setRainDelay_27 ?_
  refine T_iload_n (pc := 30) C dX12_setRainDelay_30 rfl 1 rfl ?_
  refine T_guard (fun g4 => ?_)
  refine Tc_ald27 (pc := 31) C 1 (rfl : kd 1 = 8) g4 dX12_setRainDelay_31 (fun y5 => ?_)
  refine Tc_geti (pc := 32) C (1 + 23 + 2 * x1.toNat) 7 3 8 y5 (by decide) (fun _ => rfl) rfl inX7 (by decide) rfl kx_117 dX12_setRainDelay_32 (fun z6 => ?_)
  refine T_blV z6.1 (fun v7 hv7 => ?_)
  refine T_istore_n (pc := 35) (L' := [(3, vi v7), (0, .ref (ad 0)), (1, vi x1), (2, vi x2)]) C dX12_setRainDelay_35 rfl (Nat.le_of_ble_eq_true rfl) rfl ?_
  refine T_aload_n (pc := 36) C dX12_setRainDelay_36 rfl 1 rfl ?_
  refine Tc_getr (pc := 37) C 0 12 0 13 (rfl : kd 0 = 12) (by decide) (fun _ => rfl) rfl inX12 (by decide) (v := .ref (ad 1)) rfl kx_84 dX12_setRainDelay_37 ?_
  refine Tc_getr (pc := 40) C 1 8 8 10 (rfl : kd 1 = 8) (by decide) (fun _ => rfl) rfl inX8 (by decide) (v := .ref (ad 5)) rfl kx_105 dX12_setRainDelay_40 ?_
  refine T_iload_n (pc := 43) C dX12_setRainDelay_43 rfl 2 rfl ?_
  refine Tc_ald27 (pc := 44) C 1 (rfl : kd 1 = 8) g4 dX12_setRainDelay_44 (fun y8 => ?_)
  refine T_iload_n (pc := 45) C dX12_setRainDelay_45 rfl 3 rfl ?_
  refine Tc_put (pc := 46) C (ty := .int) (1 + 23 + 2 * x1.toNat) 7 3 8 y8 (by decide) (fun _ => rfl) rfl inX7 (by decide) (fun _ => rfl) ⟨h2, fun e9 => absurd e9 (by decide)⟩ tyX7 tyX7_ok nmX7 rfl (Nat.le_of_ble_eq_true rfl) kx_117 rfl (nar_I _) (fit_I _) dX12_setRainDelay_46 ?_
  refine T_blS (fun s9 => ?_)
  refine T_iload_n (pc := 49) C dX12_setRainDelay_49 rfl 0 rfl ?_
  exact T_xiret (pc := 50) (s9, 0, v7) (s9, 0, v7) rfl (fun h9 => h9.1) hv7 (nar_I _) (by decide) dX12_setRainDelay_50

abbrev rm_X12_setClosed : Room := ⟨7, 1, 6, 128⟩
theorem cm_X12_setClosed : cmV yX12_setClosed cX12_setClosed 4 (some .boolean) 2 := ⟨kx_8, kx_82, ⟨by decide +kernel, by decide +kernel, by decide +kernel⟩, kx_122, kx_123⟩
def f_X12_setClosed (N : Nat) (σ : Sm) (x1 : Int) (x2 : Int) : Option (So Sm) :=
  (f_X8_stopIndexFault σ 1 x1).bind fun v1 => (f_X12_refuse σ v1).bind fun v2 => if v2.2.1 = 0 then (f_X6_keep N v2.1 100 1).bind fun s3 => if 0 ≤ x1 ∧ x1 < 10 then bl (s3 3 x1.toNat) fun v6 => bl (upm s3 3 x1.toNat x2) fun s7 => some (s7, 0, v6) else none else some (xw v2)
theorem ct_X12_setClosed {l : Launch} {cy : Nat → ClassId} {ad : Nat → Nat} {E : Nat → Nat → Nat} {G : va_G} {Z : vZ} {sa : Nat → Nat} (zk : Zk Z E) (zy : Zy Z E sa) (hst : l.stackTraces = false) (N : Nat) (σ : Sm) (x1 : Int) (x2 : Int) (h1 : rng x1) (h2 : bit x2) (hw : wfc σ) (o : So Sm) (h : f_X12_setClosed N σ x1 x2 = some o) : CxI Z l yX12_setClosed cX12_setClosed 4 (some .boolean) rm_X12_setClosed (wlc cy ad E) wfc G (tyc cy) [.ref (ad 0), vi x1, vi x2] σ o := by
  refine cxI_of zk.1 zy.1 hst (by decide) (Nat.le_of_ble_eq_true rfl) hw o h (fun X A Q hZ hX C => ?_)
  replace hst : X.2.1.stackTraces = false := by rw [hX]; exact hst
  replace C : Cx X (Yc cy ad E G A 4 Q) cX12_setClosed RX12 (some .boolean) rm_X12_setClosed (tyc cy) := C
  replace hZ : Zx Z X (Yc cy ad E G A 4 Q) := hZ
  show T X (Yc cy ad E G A 4 Q) (fun w => EndXI X (Yc cy ad E G A 4 Q) cX12_setClosed rm_X12_setClosed .boolean w ∧ EndX X (Yc cy ad E G A 4 Q) cX12_setClosed RX12 rm_X12_setClosed w) 0 0 0 [(0, .ref (ad 0)), (1, vi x1), (2, vi x2)] [] σ (f_X12_setClosed N σ x1 x2)
  unfold f_X12_setClosed
  refine T_aload_n (pc := 0) C dX12_setClosed_0 rfl 0 rfl ?_
  refine Tc_getr (pc := 1) C 0 12 0 13 (rfl : kd 0 = 12) (by decide) (fun _ => rfl) rfl inX12 (by decide) (v := .ref (ad 1)) rfl kx_84 dX12_setClosed_1 ?_
  refine T_iload_n (pc := 4) C dX12_setClosed_4 rfl 1 rfl ?_
  refine T_czVep (pc := 5) zk.1 hZ C [vi x1] [] (fun o h9 hw => ct_X8_stopIndexFault zk σ 1 x1 (rfl : kd 1 = 8) h1 hw o h9) kx_120 cm_X8_stopIndexFault (rcc (rfl : kd 1 = 8) (by decide) (fun _ => rfl) rfl) rfl rfl (Nat.le_of_ble_eq_true rfl) (by decide) (a' := 0) (b' := 0) ⟨rfl, rfl⟩ dX12_setClosed_5 (fun v1 hv1 => ?_)
  refine T_cxSv (pc := 8) zk.1 hZ C [ve E 0 v1] [] (fun o h9 hw => ct_X12_refuse zk zy hst σ v1 hv1 hw o h9) kx_86 cm_X12_refuse rfl rfl (Nat.le_of_ble_eq_true rfl) (by decide) (a' := 1) (b' := 6) ⟨rfl, rfl⟩ dX12_setClosed_8 (g := xw) (fun o h9 h8 => (h9.2 h8).1) (fun v2 => ?_)
  refine T_aload_n (pc := 11) C dX12_setClosed_11 rfl 0 rfl ?_
  refine Tc_getr (pc := 12) C 0 12 4 13 (rfl : kd 0 = 12) (by decide) (fun _ => rfl) rfl inX12 (by decide) (v := .ref (ad 100)) rfl kx_87 dX12_setClosed_12 ?_
  refine T_aload_n (pc := 15) C dX12_setClosed_15 rfl 0 rfl ?_
  refine Tc_getr (pc := 16) C 0 12 0 13 (rfl : kd 0 = 12) (by decide) (fun _ => rfl) rfl inX12 (by decide) (v := .ref (ad 1)) rfl kx_84 dX12_setClosed_16 ?_
  refine T_czVv (pc := 19) zk.1 hZ C [.ref (ad 1)] [] (fun o h9 hw => ct_X6_keep zk N v2.1 100 1 (rfl : kd 100 = 6) (rfl : kd 1 = 8) hw o h9) kx_88 cm_X6_keep (rcc (rfl : kd 100 = 6) (by decide) (fun _ => rfl) rfl) rfl rfl (Nat.le_of_ble_eq_true rfl) (by decide) (a' := 1) (b' := 6) ⟨rfl, rfl⟩ dX12_setClosed_19 (fun s3 => ?_)
  refine T_aload_n (pc := 22) C dX12_setClosed_22 rfl 0 rfl ?_
  refine Tc_getr (pc := 23) C 0 12 0 13 (rfl : kd 0 = 12) (by decide) (fun _ => rfl) rfl inX12 (by decide) (v := .ref (ad 1)) rfl kx_84 dX12_setClosed_23 ?_
  refine Tc_getr (pc := 26) C 1 8 4 10 (rfl : kd 1 = 8) (by decide) (fun _ => rfl) rfl inX8 (by decide) (v := .ref (ad 3)) rfl kx_121 dX12_setClosed_26 ?_
  refine T_iload_n (pc := 29) C dX12_setClosed_29 rfl 1 rfl ?_
  refine T_guard (fun g4 => ?_)
  refine Tc_zald (pc := 30) C 3 x1.toNat (kd_8 (rfl : kd 1 = 8)).2.1 g4 rfl dX12_setClosed_30 (fun z5 => ?_)
  refine T_blB z5 (fun v6 hv6 => ?_)
  refine T_istore_n (pc := 31) (L' := [(3, vi v6), (0, .ref (ad 0)), (1, vi x1), (2, vi x2)]) C dX12_setClosed_31 rfl (Nat.le_of_ble_eq_true rfl) rfl ?_
  refine T_aload_n (pc := 32) C dX12_setClosed_32 rfl 1 rfl ?_
  refine Tc_getr (pc := 33) C 0 12 0 13 (rfl : kd 0 = 12) (by decide) (fun _ => rfl) rfl inX12 (by decide) (v := .ref (ad 1)) rfl kx_84 dX12_setClosed_33 ?_
  refine Tc_getr (pc := 36) C 1 8 4 10 (rfl : kd 1 = 8) (by decide) (fun _ => rfl) rfl inX8 (by decide) (v := .ref (ad 3)) rfl kx_121 dX12_setClosed_36 ?_
  refine T_iload_n (pc := 39) C dX12_setClosed_39 rfl 2 rfl ?_
  refine T_iload_n (pc := 40) C dX12_setClosed_40 rfl 3 rfl ?_
  refine Tc_zast (pc := 41) C 3 x1.toNat (kd_8 (rfl : kd 1 = 8)).2.1 g4 rfl h2 dX12_setClosed_41 ?_
  refine T_blS (fun s7 => ?_)
  refine T_iload_n (pc := 42) C dX12_setClosed_42 rfl 0 rfl ?_
  exact T_xiret (pc := 43) (s7, 0, v6) (s7, 0, v6) rfl (fun h9 => h9.1) (bit_rng hv6) (nar_Z hv6) (by decide) dX12_setClosed_43

abbrev rm_X12_setSuspended : Room := ⟨7, 1, 6, 128⟩
theorem cm_X12_setSuspended : cmV yX12_setSuspended cX12_setSuspended 4 (some .boolean) 2 := ⟨kx_9, kx_82, ⟨by decide +kernel, by decide +kernel, by decide +kernel⟩, kx_126, kx_127⟩
def f_X12_setSuspended (N : Nat) (σ : Sm) (x1 : Int) (x2 : Int) : Option (So Sm) :=
  (f_X8_lineIndexFault σ 1 x1).bind fun v1 => (f_X12_refuse σ v1).bind fun v2 => if v2.2.1 = 0 then (f_X6_keep N v2.1 100 1).bind fun s3 => if 0 ≤ x1 ∧ x1 < 5 then bl (s3 (1 + 23 + 2 * x1.toNat) 5) fun v7 => bl (upm s3 (1 + 23 + 2 * x1.toNat) 5 x2) fun s9 => some (s9, 0, v7) else none else some (xw v2)
theorem ct_X12_setSuspended {l : Launch} {cy : Nat → ClassId} {ad : Nat → Nat} {E : Nat → Nat → Nat} {G : va_G} {Z : vZ} {sa : Nat → Nat} (zk : Zk Z E) (zy : Zy Z E sa) (hst : l.stackTraces = false) (N : Nat) (σ : Sm) (x1 : Int) (x2 : Int) (h1 : rng x1) (h2 : bit x2) (hw : wfc σ) (o : So Sm) (h : f_X12_setSuspended N σ x1 x2 = some o) : CxI Z l yX12_setSuspended cX12_setSuspended 4 (some .boolean) rm_X12_setSuspended (wlc cy ad E) wfc G (tyc cy) [.ref (ad 0), vi x1, vi x2] σ o := by
  refine cxI_of zk.1 zy.1 hst (by decide) (Nat.le_of_ble_eq_true rfl) hw o h (fun X A Q hZ hX C => ?_)
  replace hst : X.2.1.stackTraces = false := by rw [hX]; exact hst
  replace C : Cx X (Yc cy ad E G A 4 Q) cX12_setSuspended RX12 (some .boolean) rm_X12_setSuspended (tyc cy) := C
  replace hZ : Zx Z X (Yc cy ad E G A 4 Q) := hZ
  show T X (Yc cy ad E G A 4 Q) (fun w => EndXI X (Yc cy ad E G A 4 Q) cX12_setSuspended rm_X12_setSuspended .boolean w ∧ EndX X (Yc cy ad E G A 4 Q) cX12_setSuspended RX12 rm_X12_setSuspended w) 0 0 0 [(0, .ref (ad 0)), (1, vi x1), (2, vi x2)] [] σ (f_X12_setSuspended N σ x1 x2)
  unfold f_X12_setSuspended
  refine T_aload_n (pc := 0) C dX12_setSuspended_0 rfl 0 rfl ?_
  refine Tc_getr (pc := 1) C 0 12 0 13 (rfl : kd 0 = 12) (by decide) (fun _ => rfl) rfl inX12 (by decide) (v := .ref (ad 1)) rfl kx_84 dX12_setSuspended_1 ?_
  refine T_iload_n (pc := 4) C dX12_setSuspended_4 rfl 1 rfl ?_
  refine T_czVep (pc := 5) zk.1 hZ C [vi x1] [] (fun o h9 hw => ct_X8_lineIndexFault zk σ 1 x1 (rfl : kd 1 = 8) h1 hw o h9) kx_124 cm_X8_lineIndexFault (rcc (rfl : kd 1 = 8) (by decide) (fun _ => rfl) rfl) rfl rfl (Nat.le_of_ble_eq_true rfl) (by decide) (a' := 0) (b' := 0) ⟨rfl, rfl⟩ dX12_setSuspended_5 (fun v1 hv1 => ?_)
  refine T_cxSv (pc := 8) zk.1 hZ C [ve E 0 v1] [] (fun o h9 hw => ct_X12_refuse zk zy hst σ v1 hv1 hw o h9) kx_86 cm_X12_refuse rfl rfl (Nat.le_of_ble_eq_true rfl) (by decide) (a' := 1) (b' := 6) ⟨rfl, rfl⟩ dX12_setSuspended_8 (g := xw) (fun o h9 h8 => (h9.2 h8).1) (fun v2 => ?_)
  refine T_aload_n (pc := 11) C dX12_setSuspended_11 rfl 0 rfl ?_
  refine Tc_getr (pc := 12) C 0 12 4 13 (rfl : kd 0 = 12) (by decide) (fun _ => rfl) rfl inX12 (by decide) (v := .ref (ad 100)) rfl kx_87 dX12_setSuspended_12 ?_
  refine T_aload_n (pc := 15) C dX12_setSuspended_15 rfl 0 rfl ?_
  refine Tc_getr (pc := 16) C 0 12 0 13 (rfl : kd 0 = 12) (by decide) (fun _ => rfl) rfl inX12 (by decide) (v := .ref (ad 1)) rfl kx_84 dX12_setSuspended_16 ?_
  refine T_czVv (pc := 19) zk.1 hZ C [.ref (ad 1)] [] (fun o h9 hw => ct_X6_keep zk N v2.1 100 1 (rfl : kd 100 = 6) (rfl : kd 1 = 8) hw o h9) kx_88 cm_X6_keep (rcc (rfl : kd 100 = 6) (by decide) (fun _ => rfl) rfl) rfl rfl (Nat.le_of_ble_eq_true rfl) (by decide) (a' := 1) (b' := 6) ⟨rfl, rfl⟩ dX12_setSuspended_19 (fun s3 => ?_)
  refine T_aload_n (pc := 22) C dX12_setSuspended_22 rfl 0 rfl ?_
  refine Tc_getr (pc := 23) C 0 12 0 13 (rfl : kd 0 = 12) (by decide) (fun _ => rfl) rfl inX12 (by decide) (v := .ref (ad 1)) rfl kx_84 dX12_setSuspended_23 ?_
  refine Tc_getr (pc := 26) C 1 8 8 10 (rfl : kd 1 = 8) (by decide) (fun _ => rfl) rfl inX8 (by decide) (v := .ref (ad 5)) rfl kx_105 dX12_setSuspended_26 ?_
  refine T_iload_n (pc := 29) C dX12_setSuspended_29 rfl 1 rfl ?_
  refine T_guard (fun g4 => ?_)
  refine Tc_ald27 (pc := 30) C 1 (rfl : kd 1 = 8) g4 dX12_setSuspended_30 (fun y5 => ?_)
  refine Tc_geti (pc := 31) C (1 + 23 + 2 * x1.toNat) 7 5 8 y5 (by decide) (fun _ => rfl) rfl inX7 (by decide) rfl kx_125 dX12_setSuspended_31 (fun z6 => ?_)
  refine T_blB (z6.2 rfl) (fun v7 hv7 => ?_)
  refine T_istore_n (pc := 34) (L' := [(3, vi v7), (0, .ref (ad 0)), (1, vi x1), (2, vi x2)]) C dX12_setSuspended_34 rfl (Nat.le_of_ble_eq_true rfl) rfl ?_
  refine T_aload_n (pc := 35) C dX12_setSuspended_35 rfl 1 rfl ?_
  refine Tc_getr (pc := 36) C 0 12 0 13 (rfl : kd 0 = 12) (by decide) (fun _ => rfl) rfl inX12 (by decide) (v := .ref (ad 1)) rfl kx_84 dX12_setSuspended_36 ?_
  refine Tc_getr (pc := 39) C 1 8 8 10 (rfl : kd 1 = 8) (by decide) (fun _ => rfl) rfl inX8 (by decide) (v := .ref (ad 5)) rfl kx_105 dX12_setSuspended_39 ?_
  refine T_iload_n (pc := 42) C dX12_setSuspended_42 rfl 2 rfl ?_
  refine Tc_ald27 (pc := 43) C 1 (rfl : kd 1 = 8) g4 dX12_setSuspended_43 (fun y8 => ?_)
  refine T_iload_n (pc := 44) C dX12_setSuspended_44 rfl 3 rfl ?_
  refine Tc_put (pc := 45) C (ty := .boolean) (1 + 23 + 2 * x1.toNat) 7 5 8 y8 (by decide) (fun _ => rfl) rfl inX7 (by decide) (fun _ => rfl) ⟨bit_rng h2, fun _ => h2⟩ tyX7 tyX7_ok nmX7 rfl (Nat.le_of_ble_eq_true rfl) kx_125 rfl (nar_Z h2) (fit_Z h2) dX12_setSuspended_45 ?_
  refine T_blS (fun s9 => ?_)
  refine T_iload_n (pc := 48) C dX12_setSuspended_48 rfl 0 rfl ?_
  exact T_xiret (pc := 49) (s9, 0, v7) (s9, 0, v7) rfl (fun h9 => h9.1) (bit_rng hv7) (nar_Z hv7) (by decide) dX12_setSuspended_49

abbrev rm_X12_sellTicket : Room := ⟨7, 1, 6, 128⟩
theorem cm_X12_sellTicket : cmV yX12_sellTicket cX12_sellTicket 5 (some .int) 4 := ⟨kx_10, kx_82, ⟨by decide +kernel, by decide +kernel, by decide +kernel⟩, kx_130, kx_131⟩
def f_X12_sellTicket (N : Nat) (σ : Sm) (x1 : Int) (x2 : Int) (x3 : Int) (x4 : Int) : Option (So Sm) :=
  (f_X8_saleFault N σ 1 x1 x2 x3 x4).bind fun v1 => (f_X12_refuse σ v1).bind fun v2 => if v2.2.1 = 0 then (f_X6_keep N v2.1 100 1).bind fun s3 => (f_X8_putTicket s3 1 x1 x2 x3 x4).bind fun v4 => some (v4.1, 0, v4.2) else some (xw v2)
theorem ct_X12_sellTicket {l : Launch} {cy : Nat → ClassId} {ad : Nat → Nat} {E : Nat → Nat → Nat} {G : va_G} {Z : vZ} {sa : Nat → Nat} (zk : Zk Z E) (zy : Zy Z E sa) (hst : l.stackTraces = false) (N : Nat) (σ : Sm) (x1 : Int) (x2 : Int) (x3 : Int) (x4 : Int) (h1 : rng x1) (h2 : rng x2) (h3 : rng x3) (h4 : rng x4) (hw : wfc σ) (o : So Sm) (h : f_X12_sellTicket N σ x1 x2 x3 x4 = some o) : CxI Z l yX12_sellTicket cX12_sellTicket 5 (some .int) rm_X12_sellTicket (wlc cy ad E) wfc G (tyc cy) [.ref (ad 0), vi x1, vi x2, vi x3, vi x4] σ o := by
  refine cxI_of zk.1 zy.1 hst (by decide) (Nat.le_of_ble_eq_true rfl) hw o h (fun X A Q hZ hX C => ?_)
  replace hst : X.2.1.stackTraces = false := by rw [hX]; exact hst
  replace C : Cx X (Yc cy ad E G A 5 Q) cX12_sellTicket RX12 (some .int) rm_X12_sellTicket (tyc cy) := C
  replace hZ : Zx Z X (Yc cy ad E G A 5 Q) := hZ
  show T X (Yc cy ad E G A 5 Q) (fun w => EndXI X (Yc cy ad E G A 5 Q) cX12_sellTicket rm_X12_sellTicket .int w ∧ EndX X (Yc cy ad E G A 5 Q) cX12_sellTicket RX12 rm_X12_sellTicket w) 0 0 0 [(0, .ref (ad 0)), (1, vi x1), (2, vi x2), (3, vi x3), (4, vi x4)] [] σ (f_X12_sellTicket N σ x1 x2 x3 x4)
  unfold f_X12_sellTicket
  refine T_aload_n (pc := 0) C dX12_sellTicket_0 rfl 0 rfl ?_
  refine Tc_getr (pc := 1) C 0 12 0 13 (rfl : kd 0 = 12) (by decide) (fun _ => rfl) rfl inX12 (by decide) (v := .ref (ad 1)) rfl kx_84 dX12_sellTicket_1 ?_
  refine T_iload_n (pc := 4) C dX12_sellTicket_4 rfl 1 rfl ?_
  refine T_iload_n (pc := 5) C dX12_sellTicket_5 rfl 2 rfl ?_
  refine T_iload_n (pc := 6) C dX12_sellTicket_6 rfl 3 rfl ?_
  refine T_iload (pc := 7) C dX12_sellTicket_7 4 rfl ?_
  refine T_czVep (pc := 9) zk.1 hZ C [vi x1, vi x2, vi x3, vi x4] [] (fun o h9 hw => ct_X8_saleFault zk N σ 1 x1 x2 x3 x4 (rfl : kd 1 = 8) h1 h2 h3 h4 hw o h9) kx_128 cm_X8_saleFault (rcc (rfl : kd 1 = 8) (by decide) (fun _ => rfl) rfl) rfl rfl (Nat.le_of_ble_eq_true rfl) (by decide) (a' := 0) (b' := 0) ⟨rfl, rfl⟩ dX12_sellTicket_9 (fun v1 hv1 => ?_)
  refine T_cxSv (pc := 12) zk.1 hZ C [ve E 0 v1] [] (fun o h9 hw => ct_X12_refuse zk zy hst σ v1 hv1 hw o h9) kx_86 cm_X12_refuse rfl rfl (Nat.le_of_ble_eq_true rfl) (by decide) (a' := 1) (b' := 6) ⟨rfl, rfl⟩ dX12_sellTicket_12 (g := xw) (fun o h9 h8 => (h9.2 h8).1) (fun v2 => ?_)
  refine T_aload_n (pc := 15) C dX12_sellTicket_15 rfl 0 rfl ?_
  refine Tc_getr (pc := 16) C 0 12 4 13 (rfl : kd 0 = 12) (by decide) (fun _ => rfl) rfl inX12 (by decide) (v := .ref (ad 100)) rfl kx_87 dX12_sellTicket_16 ?_
  refine T_aload_n (pc := 19) C dX12_sellTicket_19 rfl 0 rfl ?_
  refine Tc_getr (pc := 20) C 0 12 0 13 (rfl : kd 0 = 12) (by decide) (fun _ => rfl) rfl inX12 (by decide) (v := .ref (ad 1)) rfl kx_84 dX12_sellTicket_20 ?_
  refine T_czVv (pc := 23) zk.1 hZ C [.ref (ad 1)] [] (fun o h9 hw => ct_X6_keep zk N v2.1 100 1 (rfl : kd 100 = 6) (rfl : kd 1 = 8) hw o h9) kx_88 cm_X6_keep (rcc (rfl : kd 100 = 6) (by decide) (fun _ => rfl) rfl) rfl rfl (Nat.le_of_ble_eq_true rfl) (by decide) (a' := 1) (b' := 6) ⟨rfl, rfl⟩ dX12_sellTicket_23 (fun s3 => ?_)
  refine T_aload_n (pc := 26) C dX12_sellTicket_26 rfl 0 rfl ?_
  refine Tc_getr (pc := 27) C 0 12 0 13 (rfl : kd 0 = 12) (by decide) (fun _ => rfl) rfl inX12 (by decide) (v := .ref (ad 1)) rfl kx_84 dX12_sellTicket_27 ?_
  refine T_iload_n (pc := 30) C dX12_sellTicket_30 rfl 1 rfl ?_
  refine T_iload_n (pc := 31) C dX12_sellTicket_31 rfl 2 rfl ?_
  refine T_iload_n (pc := 32) C dX12_sellTicket_32 rfl 3 rfl ?_
  refine T_iload (pc := 33) C dX12_sellTicket_33 4 rfl ?_
  refine T_czVi (pc := 35) zk.1 hZ C [vi x1, vi x2, vi x3, vi x4] [] (fun o h9 hw => ct_X8_putTicket zk s3 1 x1 x2 x3 x4 (rfl : kd 1 = 8) h1 h2 h3 h4 hw o h9) kx_129 cm_X8_putTicket (rcc (rfl : kd 1 = 8) (by decide) (fun _ => rfl) rfl) rfl rfl (Nat.le_of_ble_eq_true rfl) (by decide) (a' := 1) (b' := 6) ⟨rfl, rfl⟩ dX12_sellTicket_35 (fun v4 hv4 => ?_)
  exact T_xiret (pc := 38) (v4.1, 0, v4.2) (v4.1, 0, v4.2) rfl (fun h9 => h9.1) hv4.1 (nar_I _) (by decide) dX12_sellTicket_38

abbrev rm_X12_knownTicket : Room := ⟨6, 1, 6, 82⟩
theorem cm_X12_knownTicket : cmV yX12_knownTicket cX12_knownTicket 3 (some .int) 1 := ⟨kx_56, kx_82, ⟨by decide +kernel, by decide +kernel, by decide +kernel⟩, kx_134, kx_135⟩
def f_X12_knownTicket (N : Nat) (σ : Sm) (x1 : Int) : Option (So Sm) :=
  (f_X11_placeOfId N σ 6 x1).bind fun v1 => (if v1 = (-1) then some (σ, 4, 0) else some (σ, 0, v1))
theorem ct_X12_knownTicket {l : Launch} {cy : Nat → ClassId} {ad : Nat → Nat} {E : Nat → Nat → Nat} {G : va_G} {Z : vZ} {sa : Nat → Nat} (zk : Zk Z E) (zy : Zy Z E sa) (hst : l.stackTraces = false) (N : Nat) (σ : Sm) (x1 : Int) (h1 : rng x1) (hw : wfc σ) (o : So Sm) (h : f_X12_knownTicket N σ x1 = some o) : CxI Z l yX12_knownTicket cX12_knownTicket 3 (some .int) rm_X12_knownTicket (wlc cy ad E) wfc G (tyc cy) [.ref (ad 0), vi x1] σ o := by
  refine cxI_of zk.1 zy.1 hst (by decide) (Nat.le_of_ble_eq_true rfl) hw o h (fun X A Q hZ hX C => ?_)
  replace hst : X.2.1.stackTraces = false := by rw [hX]; exact hst
  replace C : Cx X (Yc cy ad E G A 3 Q) cX12_knownTicket RX12 (some .int) rm_X12_knownTicket (tyc cy) := C
  replace hZ : Zx Z X (Yc cy ad E G A 3 Q) := hZ
  show T X (Yc cy ad E G A 3 Q) (fun w => EndXI X (Yc cy ad E G A 3 Q) cX12_knownTicket rm_X12_knownTicket .int w ∧ EndX X (Yc cy ad E G A 3 Q) cX12_knownTicket RX12 rm_X12_knownTicket w) 0 0 0 [(0, .ref (ad 0)), (1, vi x1)] [] σ (f_X12_knownTicket N σ x1)
  unfold f_X12_knownTicket
  refine T_aload_n (pc := 0) C dX12_knownTicket_0 rfl 0 rfl ?_
  refine Tc_getr (pc := 1) C 0 12 0 13 (rfl : kd 0 = 12) (by decide) (fun _ => rfl) rfl inX12 (by decide) (v := .ref (ad 1)) rfl kx_84 dX12_knownTicket_1 ?_
  refine Tc_getr (pc := 4) C 1 8 9 10 (rfl : kd 1 = 8) (by decide) (fun _ => rfl) rfl inX8 (by decide) (v := .ref (ad 6)) rfl kx_132 dX12_knownTicket_4 ?_
  refine T_iload_n (pc := 7) C dX12_knownTicket_7 rfl 1 rfl ?_
  refine T_czVip (pc := 8) zk.1 hZ C [vi x1] [] (fun o h9 hw => ct_X11_placeOfId zk N σ 6 x1 (kd_8 (rfl : kd 1 = 8)).2.2.2.2.1 h1 hw o h9) kx_133 cm_X11_placeOfId (rcc (kd_8 (rfl : kd 1 = 8)).2.2.2.2.1 (by decide) (fun _ => rfl) rfl) rfl rfl (Nat.le_of_ble_eq_true rfl) (by decide) (a' := 0) (b' := 0) ⟨rfl, rfl⟩ dX12_knownTicket_8 (fun v1 hv1 => ?_)
  refine T_istore_n (pc := 11) (L' := [(2, vi v1), (0, .ref (ad 0)), (1, vi x1)]) C dX12_knownTicket_11 rfl (Nat.le_of_ble_eq_true rfl) rfl ?_
  refine T_iload_n (pc := 12) C dX12_knownTicket_12 rfl 0 rfl ?_
  refine T_iconst (pc := 13) C dX12_knownTicket_13 ?_
  refine T_icmp_ne (pc := 14) C 28 dX12_knownTicket_14 rfl hv1.1 (rngL rfl) (fun c2 => ?_) (fun c2 => ?_)
  · refine T_iload_n (pc := 28) C dX12_knownTicket_28 rfl 0 rfl ?_
    exact T_xiret (pc := 29) (σ, 0, v1) (σ, 0, v1) rfl (fun h9 => h9.1) hv1.1 (nar_I _) (by decide) dX12_knownTicket_29
  · exact T_throwN (pc := 17) (σ, 4, 0) (fun h9 => h9.2) (sa 468) "no such ticket" kx_78 kx_79 (zy.2.1 _ _ _ hZ (468, "no such ticket") (List.mem_of_getElem? (i := 5) rfl)) (xn_at zy hZ xa_3) (by decide) (by decide) (by decide) dX12_knownTicket_17 dX12_knownTicket_20 (Or.inr ⟨dX12_knownTicket_21, dX12_knownTicket_24, dX12_knownTicket_27⟩)

abbrev rm_X12_refund : Room := ⟨7, 1, 6, 128⟩
theorem cm_X12_refund : cmV yX12_refund cX12_refund 3 (some .int) 1 := ⟨kx_11, kx_82, ⟨by decide +kernel, by decide +kernel, by decide +kernel⟩, kx_138, kx_139⟩
def f_X12_refund (N : Nat) (σ : Sm) (x1 : Int) : Option (So Sm) :=
  (f_X12_knownTicket N σ x1).bind fun v1 => if v1.2.1 = 0 then (f_X6_keep N v1.1 100 1).bind fun s2 => (f_X11_giveBack N s2 6 v1.2.2).bind fun v3 => some (v3.1, 0, v3.2) else some (xw v1)
theorem ct_X12_refund {l : Launch} {cy : Nat → ClassId} {ad : Nat → Nat} {E : Nat → Nat → Nat} {G : va_G} {Z : vZ} {sa : Nat → Nat} (zk : Zk Z E) (zy : Zy Z E sa) (hst : l.stackTraces = false) (N : Nat) (σ : Sm) (x1 : Int) (h1 : rng x1) (hw : wfc σ) (o : So Sm) (h : f_X12_refund N σ x1 = some o) : CxI Z l yX12_refund cX12_refund 3 (some .int) rm_X12_refund (wlc cy ad E) wfc G (tyc cy) [.ref (ad 0), vi x1] σ o := by
  refine cxI_of zk.1 zy.1 hst (by decide) (Nat.le_of_ble_eq_true rfl) hw o h (fun X A Q hZ hX C => ?_)
  replace hst : X.2.1.stackTraces = false := by rw [hX]; exact hst
  replace C : Cx X (Yc cy ad E G A 3 Q) cX12_refund RX12 (some .int) rm_X12_refund (tyc cy) := C
  replace hZ : Zx Z X (Yc cy ad E G A 3 Q) := hZ
  show T X (Yc cy ad E G A 3 Q) (fun w => EndXI X (Yc cy ad E G A 3 Q) cX12_refund rm_X12_refund .int w ∧ EndX X (Yc cy ad E G A 3 Q) cX12_refund RX12 rm_X12_refund w) 0 0 0 [(0, .ref (ad 0)), (1, vi x1)] [] σ (f_X12_refund N σ x1)
  unfold f_X12_refund
  refine T_aload_n (pc := 0) C dX12_refund_0 rfl 0 rfl ?_
  refine T_iload_n (pc := 1) C dX12_refund_1 rfl 1 rfl ?_
  refine T_cxVi (pc := 2) zk.1 hZ C [vi x1] [] (fun o h9 hw => ct_X12_knownTicket zk zy hst N σ x1 h1 hw o h9) kx_136 cm_X12_knownTicket (rcc (rfl : kd 0 = 12) (by decide) (fun _ => rfl) rfl) rfl rfl (Nat.le_of_ble_eq_true rfl) (by decide) (a' := 1) (b' := 6) ⟨rfl, rfl⟩ dX12_refund_2 (g := xw) (fun o h9 h8 => (h9.2 h8).1) (fun v1 hv1 => ?_)
  refine T_istore_n (pc := 5) (L' := [(2, vi v1.2.2), (0, .ref (ad 0)), (1, vi x1)]) C dX12_refund_5 rfl (Nat.le_of_ble_eq_true rfl) rfl ?_
  refine T_aload_n (pc := 6) C dX12_refund_6 rfl 1 rfl ?_
  refine Tc_getr (pc := 7) C 0 12 4 13 (rfl : kd 0 = 12) (by decide) (fun _ => rfl) rfl inX12 (by decide) (v := .ref (ad 100)) rfl kx_87 dX12_refund_7 ?_
  refine T_aload_n (pc := 10) C dX12_refund_10 rfl 1 rfl ?_
  refine Tc_getr (pc := 11) C 0 12 0 13 (rfl : kd 0 = 12) (by decide) (fun _ => rfl) rfl inX12 (by decide) (v := .ref (ad 1)) rfl kx_84 dX12_refund_11 ?_
  refine T_czVv (pc := 14) zk.1 hZ C [.ref (ad 1)] [] (fun o h9 hw => ct_X6_keep zk N v1.1 100 1 (rfl : kd 100 = 6) (rfl : kd 1 = 8) hw o h9) kx_88 cm_X6_keep (rcc (rfl : kd 100 = 6) (by decide) (fun _ => rfl) rfl) rfl rfl (Nat.le_of_ble_eq_true rfl) (by decide) (a' := 1) (b' := 6) ⟨rfl, rfl⟩ dX12_refund_14 (fun s2 => ?_)
  refine T_aload_n (pc := 17) C dX12_refund_17 rfl 1 rfl ?_
  refine Tc_getr (pc := 18) C 0 12 0 13 (rfl : kd 0 = 12) (by decide) (fun _ => rfl) rfl inX12 (by decide) (v := .ref (ad 1)) rfl kx_84 dX12_refund_18 ?_
  refine Tc_getr (pc := 21) C 1 8 9 10 (rfl : kd 1 = 8) (by decide) (fun _ => rfl) rfl inX8 (by decide) (v := .ref (ad 6)) rfl kx_132 dX12_refund_21 ?_
  refine T_iload_n (pc := 24) C dX12_refund_24 rfl 0 rfl ?_
  refine T_czVi (pc := 25) zk.1 hZ C [vi v1.2.2] [] (fun o h9 hw => ct_X11_giveBack zk N s2 6 v1.2.2 (kd_8 (rfl : kd 1 = 8)).2.2.2.2.1 hv1.1 hw o h9) kx_137 cm_X11_giveBack (rcc (kd_8 (rfl : kd 1 = 8)).2.2.2.2.1 (by decide) (fun _ => rfl) rfl) rfl rfl (Nat.le_of_ble_eq_true rfl) (by decide) (a' := 1) (b' := 6) ⟨rfl, rfl⟩ dX12_refund_25 (fun v3 hv3 => ?_)
  exact T_xiret (pc := 28) (v3.1, 0, v3.2) (v3.1, 0, v3.2) rfl (fun h9 => h9.1) hv3.1 (nar_I _) (by decide) dX12_refund_28

abbrev rm_X12_advance : Room := ⟨7, 1, 6, 128⟩
theorem cm_X12_advance : cmV yX12_advance cX12_advance 2 (some .int) 1 := ⟨kx_12, kx_82, ⟨by decide +kernel, by decide +kernel, by decide +kernel⟩, kx_142, kx_143⟩
def f_X12_advance (N : Nat) (σ : Sm) (x1 : Int) : Option (So Sm) :=
  (f_X8_waitFault 1 x1).bind fun v1 => (f_X12_refuse σ v1).bind fun v2 => if v2.2.1 = 0 then (f_X6_keep N v2.1 100 1).bind fun s3 => (f_X8_pass N s3 1 x1).bind fun v4 => some (v4.1, 0, v4.2) else some (xw v2)
theorem ct_X12_advance {l : Launch} {cy : Nat → ClassId} {ad : Nat → Nat} {E : Nat → Nat → Nat} {G : va_G} {Z : vZ} {sa : Nat → Nat} (zk : Zk Z E) (zy : Zy Z E sa) (hst : l.stackTraces = false) (N : Nat) (σ : Sm) (x1 : Int) (h1 : rng x1) (hw : wfc σ) (o : So Sm) (h : f_X12_advance N σ x1 = some o) : CxI Z l yX12_advance cX12_advance 2 (some .int) rm_X12_advance (wlc cy ad E) wfc G (tyc cy) [.ref (ad 0), vi x1] σ o := by
  refine cxI_of zk.1 zy.1 hst (by decide) (Nat.le_of_ble_eq_true rfl) hw o h (fun X A Q hZ hX C => ?_)
  replace hst : X.2.1.stackTraces = false := by rw [hX]; exact hst
  replace C : Cx X (Yc cy ad E G A 2 Q) cX12_advance RX12 (some .int) rm_X12_advance (tyc cy) := C
  replace hZ : Zx Z X (Yc cy ad E G A 2 Q) := hZ
  show T X (Yc cy ad E G A 2 Q) (fun w => EndXI X (Yc cy ad E G A 2 Q) cX12_advance rm_X12_advance .int w ∧ EndX X (Yc cy ad E G A 2 Q) cX12_advance RX12 rm_X12_advance w) 0 0 0 [(0, .ref (ad 0)), (1, vi x1)] [] σ (f_X12_advance N σ x1)
  unfold f_X12_advance
  refine T_aload_n (pc := 0) C dX12_advance_0 rfl 0 rfl ?_
  refine Tc_getr (pc := 1) C 0 12 0 13 (rfl : kd 0 = 12) (by decide) (fun _ => rfl) rfl inX12 (by decide) (v := .ref (ad 1)) rfl kx_84 dX12_advance_1 ?_
  refine T_iload_n (pc := 4) C dX12_advance_4 rfl 1 rfl ?_
  refine T_czVep (pc := 5) zk.1 hZ C [vi x1] [] (fun o h9 hw => ct_X8_waitFault zk σ 1 x1 (rfl : kd 1 = 8) h1 hw o h9) kx_140 cm_X8_waitFault (rcc (rfl : kd 1 = 8) (by decide) (fun _ => rfl) rfl) rfl rfl (Nat.le_of_ble_eq_true rfl) (by decide) (a' := 0) (b' := 0) ⟨rfl, rfl⟩ dX12_advance_5 (fun v1 hv1 => ?_)
  refine T_cxSv (pc := 8) zk.1 hZ C [ve E 0 v1] [] (fun o h9 hw => ct_X12_refuse zk zy hst σ v1 hv1 hw o h9) kx_86 cm_X12_refuse rfl rfl (Nat.le_of_ble_eq_true rfl) (by decide) (a' := 1) (b' := 6) ⟨rfl, rfl⟩ dX12_advance_8 (g := xw) (fun o h9 h8 => (h9.2 h8).1) (fun v2 => ?_)
  refine T_aload_n (pc := 11) C dX12_advance_11 rfl 0 rfl ?_
  refine Tc_getr (pc := 12) C 0 12 4 13 (rfl : kd 0 = 12) (by decide) (fun _ => rfl) rfl inX12 (by decide) (v := .ref (ad 100)) rfl kx_87 dX12_advance_12 ?_
  refine T_aload_n (pc := 15) C dX12_advance_15 rfl 0 rfl ?_
  refine Tc_getr (pc := 16) C 0 12 0 13 (rfl : kd 0 = 12) (by decide) (fun _ => rfl) rfl inX12 (by decide) (v := .ref (ad 1)) rfl kx_84 dX12_advance_16 ?_
  refine T_czVv (pc := 19) zk.1 hZ C [.ref (ad 1)] [] (fun o h9 hw => ct_X6_keep zk N v2.1 100 1 (rfl : kd 100 = 6) (rfl : kd 1 = 8) hw o h9) kx_88 cm_X6_keep (rcc (rfl : kd 100 = 6) (by decide) (fun _ => rfl) rfl) rfl rfl (Nat.le_of_ble_eq_true rfl) (by decide) (a' := 1) (b' := 6) ⟨rfl, rfl⟩ dX12_advance_19 (fun s3 => ?_)
  refine T_aload_n (pc := 22) C dX12_advance_22 rfl 0 rfl ?_
  refine Tc_getr (pc := 23) C 0 12 0 13 (rfl : kd 0 = 12) (by decide) (fun _ => rfl) rfl inX12 (by decide) (v := .ref (ad 1)) rfl kx_84 dX12_advance_23 ?_
  refine T_iload_n (pc := 26) C dX12_advance_26 rfl 1 rfl ?_
  refine T_czVi (pc := 27) zk.1 hZ C [vi x1] [] (fun o h9 hw => ct_X8_pass zk N s3 1 x1 (rfl : kd 1 = 8) h1 hw o h9) kx_141 cm_X8_pass (rcc (rfl : kd 1 = 8) (by decide) (fun _ => rfl) rfl) rfl rfl (Nat.le_of_ble_eq_true rfl) (by decide) (a' := 1) (b' := 6) ⟨rfl, rfl⟩ dX12_advance_27 (fun v4 hv4 => ?_)
  exact T_xiret (pc := 30) (v4.1, 0, v4.2) (v4.1, 0, v4.2) rfl (fun h9 => h9.1) hv4.1 (nar_I _) (by decide) dX12_advance_30

abbrev rm_X12_minute : Room := ⟨1, 0, 0, 20⟩
theorem cm_X12_minute : cmV yX12_minute cX12_minute 1 (some .int) 0 := ⟨kx_13, kx_82, ⟨by decide +kernel, by decide +kernel, by decide +kernel⟩, kx_145, kx_146⟩
def f_X12_minute (σ : Sm) : Option Int :=
  some (σ 1 0)
theorem ct_X12_minute {l : Launch} {cy : Nat → ClassId} {ad : Nat → Nat} {E : Nat → Nat → Nat} {G : va_G} {Z : vZ} {sa : Nat → Nat} (zk : Zk Z E) (zy : Zy Z E sa) (σ : Sm) (hw : wfc σ) (o : Int) (h : f_X12_minute σ = some o) : CzI Z l yX12_minute cX12_minute 1 (some .int) rm_X12_minute (wlc cy ad E) wfc G (tyc cy) [.ref (ad 0)] σ σ o := by
  refine czI_of zk.1 (plainFor_of_name (by decide)) (Nat.le_of_ble_eq_true rfl) hw (σ, o) o h (fun X Y v => EndI X Y cX12_minute rm_X12_minute .int (σ, v)) (fun _ _ h => h) (fun X A Q hZ hX C => ?_)
  replace C : Cx X (Yc cy ad E G A 1 Q) cX12_minute RX12 (some .int) rm_X12_minute (tyc cy) := C
  replace hZ : Zx Z X (Yc cy ad E G A 1 Q) := hZ
  show T X (Yc cy ad E G A 1 Q) (fun v => EndI X (Yc cy ad E G A 1 Q) cX12_minute rm_X12_minute .int (σ, v)) 0 0 0 [(0, .ref (ad 0))] [] σ (f_X12_minute σ)
  unfold f_X12_minute
  refine T_aload_n (pc := 0) C dX12_minute_0 rfl 0 rfl ?_
  refine Tc_getr (pc := 1) C 0 12 0 13 (rfl : kd 0 = 12) (by decide) (fun _ => rfl) rfl inX12 (by decide) (v := .ref (ad 1)) rfl kx_84 dX12_minute_1 ?_
  refine Tc_geti (pc := 4) C 1 8 0 10 (rfl : kd 1 = 8) (by decide) (fun _ => rfl) rfl inX8 (by decide) rfl kx_144 dX12_minute_4 (fun z1 => ?_)
  exact T_iret (pc := 7) (σ 1 0) (fun h9 => h9) z1.1 (nar_I _) (by decide) dX12_minute_7

abbrev rm_X12_isRaining : Room := ⟨1, 0, 0, 20⟩
theorem cm_X12_isRaining : cmV yX12_isRaining cX12_isRaining 1 (some .boolean) 0 := ⟨kx_14, kx_82, ⟨by decide +kernel, by decide +kernel, by decide +kernel⟩, kx_147, kx_148⟩
def f_X12_isRaining (σ : Sm) : Option Int :=
  some (σ 1 1)
theorem ct_X12_isRaining {l : Launch} {cy : Nat → ClassId} {ad : Nat → Nat} {E : Nat → Nat → Nat} {G : va_G} {Z : vZ} {sa : Nat → Nat} (zk : Zk Z E) (zy : Zy Z E sa) (σ : Sm) (hw : wfc σ) (o : Int) (h : f_X12_isRaining σ = some o) : CzI Z l yX12_isRaining cX12_isRaining 1 (some .boolean) rm_X12_isRaining (wlc cy ad E) wfc G (tyc cy) [.ref (ad 0)] σ σ o := by
  refine czI_of zk.1 (plainFor_of_name (by decide)) (Nat.le_of_ble_eq_true rfl) hw (σ, o) o h (fun X Y v => EndI X Y cX12_isRaining rm_X12_isRaining .boolean (σ, v)) (fun _ _ h => h) (fun X A Q hZ hX C => ?_)
  replace C : Cx X (Yc cy ad E G A 1 Q) cX12_isRaining RX12 (some .boolean) rm_X12_isRaining (tyc cy) := C
  replace hZ : Zx Z X (Yc cy ad E G A 1 Q) := hZ
  show T X (Yc cy ad E G A 1 Q) (fun v => EndI X (Yc cy ad E G A 1 Q) cX12_isRaining rm_X12_isRaining .boolean (σ, v)) 0 0 0 [(0, .ref (ad 0))] [] σ (f_X12_isRaining σ)
  unfold f_X12_isRaining
  refine T_aload_n (pc := 0) C dX12_isRaining_0 rfl 0 rfl ?_
  refine Tc_getr (pc := 1) C 0 12 0 13 (rfl : kd 0 = 12) (by decide) (fun _ => rfl) rfl inX12 (by decide) (v := .ref (ad 1)) rfl kx_84 dX12_isRaining_1 ?_
  refine Tc_geti (pc := 4) C 1 8 1 10 (rfl : kd 1 = 8) (by decide) (fun _ => rfl) rfl inX8 (by decide) rfl kx_113 dX12_isRaining_4 (fun z1 => ?_)
  exact T_iret (pc := 7) (σ 1 1) (fun h9 => h9) (bit_rng (z1.2 rfl)) (nar_Z (z1.2 rfl)) (by decide) dX12_isRaining_7

abbrev rm_X12_stopCount : Room := ⟨1, 0, 0, 20⟩
theorem cm_X12_stopCount : cmV yX12_stopCount cX12_stopCount 1 (some .int) 0 := ⟨kx_15, kx_82, ⟨by decide +kernel, by decide +kernel, by decide +kernel⟩, kx_150, kx_151⟩
def f_X12_stopCount (σ : Sm) : Option Int :=
  some (σ 1 2)
theorem ct_X12_stopCount {l : Launch} {cy : Nat → ClassId} {ad : Nat → Nat} {E : Nat → Nat → Nat} {G : va_G} {Z : vZ} {sa : Nat → Nat} (zk : Zk Z E) (zy : Zy Z E sa) (σ : Sm) (hw : wfc σ) (o : Int) (h : f_X12_stopCount σ = some o) : CzI Z l yX12_stopCount cX12_stopCount 1 (some .int) rm_X12_stopCount (wlc cy ad E) wfc G (tyc cy) [.ref (ad 0)] σ σ o := by
  refine czI_of zk.1 (plainFor_of_name (by decide)) (Nat.le_of_ble_eq_true rfl) hw (σ, o) o h (fun X Y v => EndI X Y cX12_stopCount rm_X12_stopCount .int (σ, v)) (fun _ _ h => h) (fun X A Q hZ hX C => ?_)
  replace C : Cx X (Yc cy ad E G A 1 Q) cX12_stopCount RX12 (some .int) rm_X12_stopCount (tyc cy) := C
  replace hZ : Zx Z X (Yc cy ad E G A 1 Q) := hZ
  show T X (Yc cy ad E G A 1 Q) (fun v => EndI X (Yc cy ad E G A 1 Q) cX12_stopCount rm_X12_stopCount .int (σ, v)) 0 0 0 [(0, .ref (ad 0))] [] σ (f_X12_stopCount σ)
  unfold f_X12_stopCount
  refine T_aload_n (pc := 0) C dX12_stopCount_0 rfl 0 rfl ?_
  refine Tc_getr (pc := 1) C 0 12 0 13 (rfl : kd 0 = 12) (by decide) (fun _ => rfl) rfl inX12 (by decide) (v := .ref (ad 1)) rfl kx_84 dX12_stopCount_1 ?_
  refine Tc_geti (pc := 4) C 1 8 2 10 (rfl : kd 1 = 8) (by decide) (fun _ => rfl) rfl inX8 (by decide) rfl kx_149 dX12_stopCount_4 (fun z1 => ?_)
  exact T_iret (pc := 7) (σ 1 2) (fun h9 => h9) z1.1 (nar_I _) (by decide) dX12_stopCount_7

abbrev rm_X12_transferMinutes : Room := ⟨7, 1, 6, 102⟩
theorem cm_X12_transferMinutes : cmV yX12_transferMinutes cX12_transferMinutes 2 (some .int) 1 := ⟨kx_16, kx_82, ⟨by decide +kernel, by decide +kernel, by decide +kernel⟩, kx_153, kx_154⟩
def f_X12_transferMinutes (σ : Sm) (x1 : Int) : Option (So Sm) :=
  (f_X8_stopIndexFault σ 1 x1).bind fun v1 => (f_X12_refuse σ v1).bind fun v2 => if v2.2.1 = 0 then if 0 ≤ x1 ∧ x1 < 10 then some (v2.1, 0, (v2.1 2 x1.toNat)) else none else some (xw v2)
theorem ct_X12_transferMinutes {l : Launch} {cy : Nat → ClassId} {ad : Nat → Nat} {E : Nat → Nat → Nat} {G : va_G} {Z : vZ} {sa : Nat → Nat} (zk : Zk Z E) (zy : Zy Z E sa) (hst : l.stackTraces = false) (σ : Sm) (x1 : Int) (h1 : rng x1) (hw : wfc σ) (o : So Sm) (h : f_X12_transferMinutes σ x1 = some o) : CxI Z l yX12_transferMinutes cX12_transferMinutes 2 (some .int) rm_X12_transferMinutes (wlc cy ad E) wfc G (tyc cy) [.ref (ad 0), vi x1] σ o := by
  refine cxI_of zk.1 zy.1 hst (by decide) (Nat.le_of_ble_eq_true rfl) hw o h (fun X A Q hZ hX C => ?_)
  replace hst : X.2.1.stackTraces = false := by rw [hX]; exact hst
  replace C : Cx X (Yc cy ad E G A 2 Q) cX12_transferMinutes RX12 (some .int) rm_X12_transferMinutes (tyc cy) := C
  replace hZ : Zx Z X (Yc cy ad E G A 2 Q) := hZ
  show T X (Yc cy ad E G A 2 Q) (fun w => EndXI X (Yc cy ad E G A 2 Q) cX12_transferMinutes rm_X12_transferMinutes .int w ∧ EndX X (Yc cy ad E G A 2 Q) cX12_transferMinutes RX12 rm_X12_transferMinutes w) 0 0 0 [(0, .ref (ad 0)), (1, vi x1)] [] σ (f_X12_transferMinutes σ x1)
  unfold f_X12_transferMinutes
  refine T_aload_n (pc := 0) C dX12_transferMinutes_0 rfl 0 rfl ?_
  refine Tc_getr (pc := 1) C 0 12 0 13 (rfl : kd 0 = 12) (by decide) (fun _ => rfl) rfl inX12 (by decide) (v := .ref (ad 1)) rfl kx_84 dX12_transferMinutes_1 ?_
  refine T_iload_n (pc := 4) C dX12_transferMinutes_4 rfl 1 rfl ?_
  refine T_czVep (pc := 5) zk.1 hZ C [vi x1] [] (fun o h9 hw => ct_X8_stopIndexFault zk σ 1 x1 (rfl : kd 1 = 8) h1 hw o h9) kx_120 cm_X8_stopIndexFault (rcc (rfl : kd 1 = 8) (by decide) (fun _ => rfl) rfl) rfl rfl (Nat.le_of_ble_eq_true rfl) (by decide) (a' := 0) (b' := 0) ⟨rfl, rfl⟩ dX12_transferMinutes_5 (fun v1 hv1 => ?_)
  refine T_cxSv (pc := 8) zk.1 hZ C [ve E 0 v1] [] (fun o h9 hw => ct_X12_refuse zk zy hst σ v1 hv1 hw o h9) kx_86 cm_X12_refuse rfl rfl (Nat.le_of_ble_eq_true rfl) (by decide) (a' := 1) (b' := 6) ⟨rfl, rfl⟩ dX12_transferMinutes_8 (g := xw) (fun o h9 h8 => (h9.2 h8).1) (fun v2 => ?_)
  refine T_aload_n (pc := 11) C dX12_transferMinutes_11 rfl 0 rfl ?_
  refine Tc_getr (pc := 12) C 0 12 0 13 (rfl : kd 0 = 12) (by decide) (fun _ => rfl) rfl inX12 (by decide) (v := .ref (ad 1)) rfl kx_84 dX12_transferMinutes_12 ?_
  refine Tc_getr (pc := 15) C 1 8 3 10 (rfl : kd 1 = 8) (by decide) (fun _ => rfl) rfl inX8 (by decide) (v := .ref (ad 2)) rfl kx_152 dX12_transferMinutes_15 ?_
  refine T_iload_n (pc := 18) C dX12_transferMinutes_18 rfl 1 rfl ?_
  refine T_guard (fun g3 => ?_)
  refine Tc_iald (pc := 19) C 2 20 10 x1.toNat (kd_8 (rfl : kd 1 = 8)).1 ⟨by decide, by decide⟩ rfl g3 rfl dX12_transferMinutes_19 (fun z4 => ?_)
  exact T_xiret (pc := 20) (v2.1, 0, (v2.1 2 x1.toNat)) (v2.1, 0, (v2.1 2 x1.toNat)) rfl (fun h9 => h9.1) z4 (nar_I _) (by decide) dX12_transferMinutes_20

abbrev rm_X12_isClosed : Room := ⟨7, 1, 6, 102⟩
theorem cm_X12_isClosed : cmV yX12_isClosed cX12_isClosed 2 (some .boolean) 1 := ⟨kx_17, kx_82, ⟨by decide +kernel, by decide +kernel, by decide +kernel⟩, kx_155, kx_156⟩
def f_X12_isClosed (σ : Sm) (x1 : Int) : Option (So Sm) :=
  (f_X8_stopIndexFault σ 1 x1).bind fun v1 => (f_X12_refuse σ v1).bind fun v2 => if v2.2.1 = 0 then if 0 ≤ x1 ∧ x1 < 10 then some (v2.1, 0, (v2.1 3 x1.toNat)) else none else some (xw v2)
theorem ct_X12_isClosed {l : Launch} {cy : Nat → ClassId} {ad : Nat → Nat} {E : Nat → Nat → Nat} {G : va_G} {Z : vZ} {sa : Nat → Nat} (zk : Zk Z E) (zy : Zy Z E sa) (hst : l.stackTraces = false) (σ : Sm) (x1 : Int) (h1 : rng x1) (hw : wfc σ) (o : So Sm) (h : f_X12_isClosed σ x1 = some o) : CxI Z l yX12_isClosed cX12_isClosed 2 (some .boolean) rm_X12_isClosed (wlc cy ad E) wfc G (tyc cy) [.ref (ad 0), vi x1] σ o := by
  refine cxI_of zk.1 zy.1 hst (by decide) (Nat.le_of_ble_eq_true rfl) hw o h (fun X A Q hZ hX C => ?_)
  replace hst : X.2.1.stackTraces = false := by rw [hX]; exact hst
  replace C : Cx X (Yc cy ad E G A 2 Q) cX12_isClosed RX12 (some .boolean) rm_X12_isClosed (tyc cy) := C
  replace hZ : Zx Z X (Yc cy ad E G A 2 Q) := hZ
  show T X (Yc cy ad E G A 2 Q) (fun w => EndXI X (Yc cy ad E G A 2 Q) cX12_isClosed rm_X12_isClosed .boolean w ∧ EndX X (Yc cy ad E G A 2 Q) cX12_isClosed RX12 rm_X12_isClosed w) 0 0 0 [(0, .ref (ad 0)), (1, vi x1)] [] σ (f_X12_isClosed σ x1)
  unfold f_X12_isClosed
  refine T_aload_n (pc := 0) C dX12_isClosed_0 rfl 0 rfl ?_
  refine Tc_getr (pc := 1) C 0 12 0 13 (rfl : kd 0 = 12) (by decide) (fun _ => rfl) rfl inX12 (by decide) (v := .ref (ad 1)) rfl kx_84 dX12_isClosed_1 ?_
  refine T_iload_n (pc := 4) C dX12_isClosed_4 rfl 1 rfl ?_
  refine T_czVep (pc := 5) zk.1 hZ C [vi x1] [] (fun o h9 hw => ct_X8_stopIndexFault zk σ 1 x1 (rfl : kd 1 = 8) h1 hw o h9) kx_120 cm_X8_stopIndexFault (rcc (rfl : kd 1 = 8) (by decide) (fun _ => rfl) rfl) rfl rfl (Nat.le_of_ble_eq_true rfl) (by decide) (a' := 0) (b' := 0) ⟨rfl, rfl⟩ dX12_isClosed_5 (fun v1 hv1 => ?_)
  refine T_cxSv (pc := 8) zk.1 hZ C [ve E 0 v1] [] (fun o h9 hw => ct_X12_refuse zk zy hst σ v1 hv1 hw o h9) kx_86 cm_X12_refuse rfl rfl (Nat.le_of_ble_eq_true rfl) (by decide) (a' := 1) (b' := 6) ⟨rfl, rfl⟩ dX12_isClosed_8 (g := xw) (fun o h9 h8 => (h9.2 h8).1) (fun v2 => ?_)
  refine T_aload_n (pc := 11) C dX12_isClosed_11 rfl 0 rfl ?_
  refine Tc_getr (pc := 12) C 0 12 0 13 (rfl : kd 0 = 12) (by decide) (fun _ => rfl) rfl inX12 (by decide) (v := .ref (ad 1)) rfl kx_84 dX12_isClosed_12 ?_
  refine Tc_getr (pc := 15) C 1 8 4 10 (rfl : kd 1 = 8) (by decide) (fun _ => rfl) rfl inX8 (by decide) (v := .ref (ad 3)) rfl kx_121 dX12_isClosed_15 ?_
  refine T_iload_n (pc := 18) C dX12_isClosed_18 rfl 1 rfl ?_
  refine T_guard (fun g3 => ?_)
  refine Tc_zald (pc := 19) C 3 x1.toNat (kd_8 (rfl : kd 1 = 8)).2.1 g3 rfl dX12_isClosed_19 (fun z4 => ?_)
  exact T_xiret (pc := 20) (v2.1, 0, (v2.1 3 x1.toNat)) (v2.1, 0, (v2.1 3 x1.toNat)) rfl (fun h9 => h9.1) (bit_rng z4) (nar_Z z4) (by decide) dX12_isClosed_20

abbrev rm_X12_walkMinutes : Room := ⟨7, 1, 6, 102⟩
theorem cm_X12_walkMinutes : cmV yX12_walkMinutes cX12_walkMinutes 3 (some .int) 2 := ⟨kx_18, kx_82, ⟨by decide +kernel, by decide +kernel, by decide +kernel⟩, kx_158, kx_159⟩
def f_X12_walkMinutes (σ : Sm) (x1 : Int) (x2 : Int) : Option (So Sm) :=
  (f_X8_walkedFault σ 1 x1 x2).bind fun v1 => (f_X12_refuse σ v1).bind fun v2 => if v2.2.1 = 0 then (f_X8_walkBetween v2.1 1 x1 x2).bind fun v3 => some (v2.1, 0, v3) else some (xw v2)
theorem ct_X12_walkMinutes {l : Launch} {cy : Nat → ClassId} {ad : Nat → Nat} {E : Nat → Nat → Nat} {G : va_G} {Z : vZ} {sa : Nat → Nat} (zk : Zk Z E) (zy : Zy Z E sa) (hst : l.stackTraces = false) (σ : Sm) (x1 : Int) (x2 : Int) (h1 : rng x1) (h2 : rng x2) (hw : wfc σ) (o : So Sm) (h : f_X12_walkMinutes σ x1 x2 = some o) : CxI Z l yX12_walkMinutes cX12_walkMinutes 3 (some .int) rm_X12_walkMinutes (wlc cy ad E) wfc G (tyc cy) [.ref (ad 0), vi x1, vi x2] σ o := by
  refine cxI_of zk.1 zy.1 hst (by decide) (Nat.le_of_ble_eq_true rfl) hw o h (fun X A Q hZ hX C => ?_)
  replace hst : X.2.1.stackTraces = false := by rw [hX]; exact hst
  replace C : Cx X (Yc cy ad E G A 3 Q) cX12_walkMinutes RX12 (some .int) rm_X12_walkMinutes (tyc cy) := C
  replace hZ : Zx Z X (Yc cy ad E G A 3 Q) := hZ
  show T X (Yc cy ad E G A 3 Q) (fun w => EndXI X (Yc cy ad E G A 3 Q) cX12_walkMinutes rm_X12_walkMinutes .int w ∧ EndX X (Yc cy ad E G A 3 Q) cX12_walkMinutes RX12 rm_X12_walkMinutes w) 0 0 0 [(0, .ref (ad 0)), (1, vi x1), (2, vi x2)] [] σ (f_X12_walkMinutes σ x1 x2)
  unfold f_X12_walkMinutes
  refine T_aload_n (pc := 0) C dX12_walkMinutes_0 rfl 0 rfl ?_
  refine Tc_getr (pc := 1) C 0 12 0 13 (rfl : kd 0 = 12) (by decide) (fun _ => rfl) rfl inX12 (by decide) (v := .ref (ad 1)) rfl kx_84 dX12_walkMinutes_1 ?_
  refine T_iload_n (pc := 4) C dX12_walkMinutes_4 rfl 1 rfl ?_
  refine T_iload_n (pc := 5) C dX12_walkMinutes_5 rfl 2 rfl ?_
  refine T_czVep (pc := 6) zk.1 hZ C [vi x1, vi x2] [] (fun o h9 hw => ct_X8_walkedFault zk σ 1 x1 x2 (rfl : kd 1 = 8) h1 h2 hw o h9) kx_96 cm_X8_walkedFault (rcc (rfl : kd 1 = 8) (by decide) (fun _ => rfl) rfl) rfl rfl (Nat.le_of_ble_eq_true rfl) (by decide) (a' := 0) (b' := 0) ⟨rfl, rfl⟩ dX12_walkMinutes_6 (fun v1 hv1 => ?_)
  refine T_cxSv (pc := 9) zk.1 hZ C [ve E 0 v1] [] (fun o h9 hw => ct_X12_refuse zk zy hst σ v1 hv1 hw o h9) kx_86 cm_X12_refuse rfl rfl (Nat.le_of_ble_eq_true rfl) (by decide) (a' := 1) (b' := 6) ⟨rfl, rfl⟩ dX12_walkMinutes_9 (g := xw) (fun o h9 h8 => (h9.2 h8).1) (fun v2 => ?_)
  refine T_aload_n (pc := 12) C dX12_walkMinutes_12 rfl 0 rfl ?_
  refine Tc_getr (pc := 13) C 0 12 0 13 (rfl : kd 0 = 12) (by decide) (fun _ => rfl) rfl inX12 (by decide) (v := .ref (ad 1)) rfl kx_84 dX12_walkMinutes_13 ?_
  refine T_iload_n (pc := 16) C dX12_walkMinutes_16 rfl 1 rfl ?_
  refine T_iload_n (pc := 17) C dX12_walkMinutes_17 rfl 2 rfl ?_
  refine T_czVip (pc := 18) zk.1 hZ C [vi x1, vi x2] [] (fun o h9 hw => ct_X8_walkBetween zk v2.1 1 x1 x2 (rfl : kd 1 = 8) h1 h2 hw o h9) kx_157 cm_X8_walkBetween (rcc (rfl : kd 1 = 8) (by decide) (fun _ => rfl) rfl) rfl rfl (Nat.le_of_ble_eq_true rfl) (by decide) (a' := 1) (b' := 6) ⟨rfl, rfl⟩ dX12_walkMinutes_18 (fun v3 hv3 => ?_)
  exact T_xiret (pc := 21) (v2.1, 0, v3) (v2.1, 0, v3) rfl (fun h9 => h9.1) hv3.1 (nar_I _) (by decide) dX12_walkMinutes_21

abbrev rm_X12_lineCount : Room := ⟨1, 0, 0, 20⟩
theorem cm_X12_lineCount : cmV yX12_lineCount cX12_lineCount 1 (some .int) 0 := ⟨kx_19, kx_82, ⟨by decide +kernel, by decide +kernel, by decide +kernel⟩, kx_161, kx_162⟩
def f_X12_lineCount (σ : Sm) : Option Int :=
  some (σ 1 7)
theorem ct_X12_lineCount {l : Launch} {cy : Nat → ClassId} {ad : Nat → Nat} {E : Nat → Nat → Nat} {G : va_G} {Z : vZ} {sa : Nat → Nat} (zk : Zk Z E) (zy : Zy Z E sa) (σ : Sm) (hw : wfc σ) (o : Int) (h : f_X12_lineCount σ = some o) : CzI Z l yX12_lineCount cX12_lineCount 1 (some .int) rm_X12_lineCount (wlc cy ad E) wfc G (tyc cy) [.ref (ad 0)] σ σ o := by
  refine czI_of zk.1 (plainFor_of_name (by decide)) (Nat.le_of_ble_eq_true rfl) hw (σ, o) o h (fun X Y v => EndI X Y cX12_lineCount rm_X12_lineCount .int (σ, v)) (fun _ _ h => h) (fun X A Q hZ hX C => ?_)
  replace C : Cx X (Yc cy ad E G A 1 Q) cX12_lineCount RX12 (some .int) rm_X12_lineCount (tyc cy) := C
  replace hZ : Zx Z X (Yc cy ad E G A 1 Q) := hZ
  show T X (Yc cy ad E G A 1 Q) (fun v => EndI X (Yc cy ad E G A 1 Q) cX12_lineCount rm_X12_lineCount .int (σ, v)) 0 0 0 [(0, .ref (ad 0))] [] σ (f_X12_lineCount σ)
  unfold f_X12_lineCount
  refine T_aload_n (pc := 0) C dX12_lineCount_0 rfl 0 rfl ?_
  refine Tc_getr (pc := 1) C 0 12 0 13 (rfl : kd 0 = 12) (by decide) (fun _ => rfl) rfl inX12 (by decide) (v := .ref (ad 1)) rfl kx_84 dX12_lineCount_1 ?_
  refine Tc_geti (pc := 4) C 1 8 7 10 (rfl : kd 1 = 8) (by decide) (fun _ => rfl) rfl inX8 (by decide) rfl kx_160 dX12_lineCount_4 (fun z1 => ?_)
  exact T_iret (pc := 7) (σ 1 7) (fun h9 => h9) z1.1 (nar_I _) (by decide) dX12_lineCount_7

abbrev rm_X12_ringSize : Room := ⟨7, 1, 6, 102⟩
theorem cm_X12_ringSize : cmV yX12_ringSize cX12_ringSize 2 (some .int) 1 := ⟨kx_20, kx_82, ⟨by decide +kernel, by decide +kernel, by decide +kernel⟩, kx_164, kx_165⟩
def f_X12_ringSize (σ : Sm) (x1 : Int) : Option (So Sm) :=
  (f_X8_lineIndexFault σ 1 x1).bind fun v1 => (f_X12_refuse σ v1).bind fun v2 => if v2.2.1 = 0 then if 0 ≤ x1 ∧ x1 < 5 then some (v2.1, 0, (v2.1 (1 + 23 + 2 * x1.toNat) 6)) else none else some (xw v2)
theorem ct_X12_ringSize {l : Launch} {cy : Nat → ClassId} {ad : Nat → Nat} {E : Nat → Nat → Nat} {G : va_G} {Z : vZ} {sa : Nat → Nat} (zk : Zk Z E) (zy : Zy Z E sa) (hst : l.stackTraces = false) (σ : Sm) (x1 : Int) (h1 : rng x1) (hw : wfc σ) (o : So Sm) (h : f_X12_ringSize σ x1 = some o) : CxI Z l yX12_ringSize cX12_ringSize 2 (some .int) rm_X12_ringSize (wlc cy ad E) wfc G (tyc cy) [.ref (ad 0), vi x1] σ o := by
  refine cxI_of zk.1 zy.1 hst (by decide) (Nat.le_of_ble_eq_true rfl) hw o h (fun X A Q hZ hX C => ?_)
  replace hst : X.2.1.stackTraces = false := by rw [hX]; exact hst
  replace C : Cx X (Yc cy ad E G A 2 Q) cX12_ringSize RX12 (some .int) rm_X12_ringSize (tyc cy) := C
  replace hZ : Zx Z X (Yc cy ad E G A 2 Q) := hZ
  show T X (Yc cy ad E G A 2 Q) (fun w => EndXI X (Yc cy ad E G A 2 Q) cX12_ringSize rm_X12_ringSize .int w ∧ EndX X (Yc cy ad E G A 2 Q) cX12_ringSize RX12 rm_X12_ringSize w) 0 0 0 [(0, .ref (ad 0)), (1, vi x1)] [] σ (f_X12_ringSize σ x1)
  unfold f_X12_ringSize
  refine T_aload_n (pc := 0) C dX12_ringSize_0 rfl 0 rfl ?_
  refine Tc_getr (pc := 1) C 0 12 0 13 (rfl : kd 0 = 12) (by decide) (fun _ => rfl) rfl inX12 (by decide) (v := .ref (ad 1)) rfl kx_84 dX12_ringSize_1 ?_
  refine T_iload_n (pc := 4) C dX12_ringSize_4 rfl 1 rfl ?_
  refine T_czVep (pc := 5) zk.1 hZ C [vi x1] [] (fun o h9 hw => ct_X8_lineIndexFault zk σ 1 x1 (rfl : kd 1 = 8) h1 hw o h9) kx_124 cm_X8_lineIndexFault (rcc (rfl : kd 1 = 8) (by decide) (fun _ => rfl) rfl) rfl rfl (Nat.le_of_ble_eq_true rfl) (by decide) (a' := 0) (b' := 0) ⟨rfl, rfl⟩ dX12_ringSize_5 (fun v1 hv1 => ?_)
  refine T_cxSv (pc := 8) zk.1 hZ C [ve E 0 v1] [] (fun o h9 hw => ct_X12_refuse zk zy hst σ v1 hv1 hw o h9) kx_86 cm_X12_refuse rfl rfl (Nat.le_of_ble_eq_true rfl) (by decide) (a' := 1) (b' := 6) ⟨rfl, rfl⟩ dX12_ringSize_8 (g := xw) (fun o h9 h8 => (h9.2 h8).1) (fun v2 => ?_)
  refine T_aload_n (pc := 11) C dX12_ringSize_11 rfl 0 rfl ?_
  refine Tc_getr (pc := 12) C 0 12 0 13 (rfl : kd 0 = 12) (by decide) (fun _ => rfl) rfl inX12 (by decide) (v := .ref (ad 1)) rfl kx_84 dX12_ringSize_12 ?_
  refine Tc_getr (pc := 15) C 1 8 8 10 (rfl : kd 1 = 8) (by decide) (fun _ => rfl) rfl inX8 (by decide) (v := .ref (ad 5)) rfl kx_105 dX12_ringSize_15 ?_
  refine T_iload_n (pc := 18) C dX12_ringSize_18 rfl 1 rfl ?_
  refine T_guard (fun g3 => ?_)
  refine Tc_ald27 (pc := 19) C 1 (rfl : kd 1 = 8) g3 dX12_ringSize_19 (fun y4 => ?_)
  refine Tc_geti (pc := 20) C (1 + 23 + 2 * x1.toNat) 7 6 8 y4 (by decide) (fun _ => rfl) rfl inX7 (by decide) rfl kx_163 dX12_ringSize_20 (fun z5 => ?_)
  exact T_xiret (pc := 23) (v2.1, 0, (v2.1 (1 + 23 + 2 * x1.toNat) 6)) (v2.1, 0, (v2.1 (1 + 23 + 2 * x1.toNat) 6)) rfl (fun h9 => h9.1) z5.1 (nar_I _) (by decide) dX12_ringSize_23

abbrev rm_X12_stopAt : Room := ⟨7, 2, 12, 102⟩
theorem cm_X12_stopAt : cmV yX12_stopAt cX12_stopAt 3 (some .int) 2 := ⟨kx_21, kx_82, ⟨by decide +kernel, by decide +kernel, by decide +kernel⟩, kx_168, kx_169⟩
def f_X12_stopAt (σ : Sm) (x1 : Int) (x2 : Int) : Option (So Sm) :=
  (f_X8_lineIndexFault σ 1 x1).bind fun v1 => (f_X12_refuse σ v1).bind fun v2 => if v2.2.1 = 0 then if 0 ≤ x1 ∧ x1 < 5 then (if (v2.1 (1 + 23 + 2 * x1.toNat) 6) = 0 then some (v2.1, 4, 0) else (f_X7_hasPosition v2.1 (1 + 23 + 2 * x1.toNat) x2).bind fun v8 => (if v8 = 0 then some (v2.1, 4, 0) else (f_X7_stopOn v2.1 (1 + 23 + 2 * x1.toNat) x2).bind fun v11 => some (v2.1, 0, v11))) else none else some (xw v2)
theorem ct_X12_stopAt {l : Launch} {cy : Nat → ClassId} {ad : Nat → Nat} {E : Nat → Nat → Nat} {G : va_G} {Z : vZ} {sa : Nat → Nat} (zk : Zk Z E) (zy : Zy Z E sa) (hst : l.stackTraces = false) (σ : Sm) (x1 : Int) (x2 : Int) (h1 : rng x1) (h2 : rng x2) (hw : wfc σ) (o : So Sm) (h : f_X12_stopAt σ x1 x2 = some o) : CxI Z l yX12_stopAt cX12_stopAt 3 (some .int) rm_X12_stopAt (wlc cy ad E) wfc G (tyc cy) [.ref (ad 0), vi x1, vi x2] σ o := by
  refine cxI_of zk.1 zy.1 hst (by decide) (Nat.le_of_ble_eq_true rfl) hw o h (fun X A Q hZ hX C => ?_)
  replace hst : X.2.1.stackTraces = false := by rw [hX]; exact hst
  replace C : Cx X (Yc cy ad E G A 3 Q) cX12_stopAt RX12 (some .int) rm_X12_stopAt (tyc cy) := C
  replace hZ : Zx Z X (Yc cy ad E G A 3 Q) := hZ
  show T X (Yc cy ad E G A 3 Q) (fun w => EndXI X (Yc cy ad E G A 3 Q) cX12_stopAt rm_X12_stopAt .int w ∧ EndX X (Yc cy ad E G A 3 Q) cX12_stopAt RX12 rm_X12_stopAt w) 0 0 0 [(0, .ref (ad 0)), (1, vi x1), (2, vi x2)] [] σ (f_X12_stopAt σ x1 x2)
  unfold f_X12_stopAt
  refine T_aload_n (pc := 0) C dX12_stopAt_0 rfl 0 rfl ?_
  refine Tc_getr (pc := 1) C 0 12 0 13 (rfl : kd 0 = 12) (by decide) (fun _ => rfl) rfl inX12 (by decide) (v := .ref (ad 1)) rfl kx_84 dX12_stopAt_1 ?_
  refine T_iload_n (pc := 4) C dX12_stopAt_4 rfl 1 rfl ?_
  refine T_czVep (pc := 5) zk.1 hZ C [vi x1] [] (fun o h9 hw => ct_X8_lineIndexFault zk σ 1 x1 (rfl : kd 1 = 8) h1 hw o h9) kx_124 cm_X8_lineIndexFault (rcc (rfl : kd 1 = 8) (by decide) (fun _ => rfl) rfl) rfl rfl (Nat.le_of_ble_eq_true rfl) (by decide) (a' := 0) (b' := 0) ⟨rfl, rfl⟩ dX12_stopAt_5 (fun v1 hv1 => ?_)
  refine T_cxSv (pc := 8) zk.1 hZ C [ve E 0 v1] [] (fun o h9 hw => ct_X12_refuse zk zy hst σ v1 hv1 hw o h9) kx_86 cm_X12_refuse rfl rfl (Nat.le_of_ble_eq_true rfl) (by decide) (a' := 1) (b' := 6) ⟨rfl, rfl⟩ dX12_stopAt_8 (g := xw) (fun o h9 h8 => (h9.2 h8).1) (fun v2 => ?_)
  refine T_aload_n (pc := 11) C dX12_stopAt_11 rfl 0 rfl ?_
  refine Tc_getr (pc := 12) C 0 12 0 13 (rfl : kd 0 = 12) (by decide) (fun _ => rfl) rfl inX12 (by decide) (v := .ref (ad 1)) rfl kx_84 dX12_stopAt_12 ?_
  refine Tc_getr (pc := 15) C 1 8 8 10 (rfl : kd 1 = 8) (by decide) (fun _ => rfl) rfl inX8 (by decide) (v := .ref (ad 5)) rfl kx_105 dX12_stopAt_15 ?_
  refine T_iload_n (pc := 18) C dX12_stopAt_18 rfl 1 rfl ?_
  refine T_guard (fun g3 => ?_)
  refine Tc_ald27 (pc := 19) C 1 (rfl : kd 1 = 8) g3 dX12_stopAt_19 (fun y4 => ?_)
  refine Tc_geti (pc := 20) C (1 + 23 + 2 * x1.toNat) 7 6 8 y4 (by decide) (fun _ => rfl) rfl inX7 (by decide) rfl kx_163 dX12_stopAt_20 (fun z5 => ?_)
  refine T_if_eq (pc := 23) C 42 dX12_stopAt_23 rfl z5.1 (fun c6 => ?_) (fun c6 => ?_)
  · exact T_throwN (pc := 42) (v2.1, 4, 0) (fun h9 => h9.2) (sa 208) "no such position" kx_78 kx_79 (zy.2.1 _ _ _ hZ (208, "no such position") (List.mem_of_getElem? (i := 6) rfl)) (xn_at zy hZ xa_3) (by decide) (by decide) (by decide) dX12_stopAt_42 dX12_stopAt_45 (Or.inl ⟨dX12_stopAt_46, dX12_stopAt_48, dX12_stopAt_51⟩)
  · refine T_aload_n (pc := 26) C dX12_stopAt_26 rfl 0 rfl ?_
    refine Tc_getr (pc := 27) C 0 12 0 13 (rfl : kd 0 = 12) (by decide) (fun _ => rfl) rfl inX12 (by decide) (v := .ref (ad 1)) rfl kx_84 dX12_stopAt_27 ?_
    refine Tc_getr (pc := 30) C 1 8 8 10 (rfl : kd 1 = 8) (by decide) (fun _ => rfl) rfl inX8 (by decide) (v := .ref (ad 5)) rfl kx_105 dX12_stopAt_30 ?_
    refine T_iload_n (pc := 33) C dX12_stopAt_33 rfl 1 rfl ?_
    refine Tc_ald27 (pc := 34) C 1 (rfl : kd 1 = 8) g3 dX12_stopAt_34 (fun y7 => ?_)
    refine T_iload_n (pc := 35) C dX12_stopAt_35 rfl 2 rfl ?_
    refine T_czVip (pc := 36) zk.1 hZ C [vi x2] [] (fun o h9 hw => ct_X7_hasPosition zk v2.1 (1 + 23 + 2 * x1.toNat) x2 y7 h2 hw o h9) kx_166 cm_X7_hasPosition (rcc y7 (by decide) (fun _ => rfl) rfl) rfl rfl (Nat.le_of_ble_eq_true rfl) (by decide) (a' := 1) (b' := 6) ⟨rfl, rfl⟩ dX12_stopAt_36 (fun v8 hv8 => ?_)
    refine T_if_ne (pc := 39) C 52 dX12_stopAt_39 rfl hv8.1 (fun c9 => ?_) (fun c9 => ?_)
    · refine T_aload_n (pc := 52) C dX12_stopAt_52 rfl 0 rfl ?_
      refine Tc_getr (pc := 53) C 0 12 0 13 (rfl : kd 0 = 12) (by decide) (fun _ => rfl) rfl inX12 (by decide) (v := .ref (ad 1)) rfl kx_84 dX12_stopAt_53 ?_
      refine Tc_getr (pc := 56) C 1 8 8 10 (rfl : kd 1 = 8) (by decide) (fun _ => rfl) rfl inX8 (by decide) (v := .ref (ad 5)) rfl kx_105 dX12_stopAt_56 ?_
      refine T_iload_n (pc := 59) C dX12_stopAt_59 rfl 1 rfl ?_
      refine Tc_ald27 (pc := 60) C 1 (rfl : kd 1 = 8) g3 dX12_stopAt_60 (fun y10 => ?_)
      refine T_iload_n (pc := 61) C dX12_stopAt_61 rfl 2 rfl ?_
      refine T_czVip (pc := 62) zk.1 hZ C [vi x2] [] (fun o h9 hw => ct_X7_stopOn zk v2.1 (1 + 23 + 2 * x1.toNat) x2 y10 h2 hw o h9) kx_167 cm_X7_stopOn (rcc y10 (by decide) (fun _ => rfl) rfl) rfl rfl (Nat.le_of_ble_eq_true rfl) (by decide) (a' := 1) (b' := 6) ⟨rfl, rfl⟩ dX12_stopAt_62 (fun v11 hv11 => ?_)
      exact T_xiret (pc := 65) (v2.1, 0, v11) (v2.1, 0, v11) rfl (fun h9 => h9.1) hv11.1 (nar_I _) (by decide) dX12_stopAt_65
    · exact T_throwN (pc := 42) (v2.1, 4, 0) (fun h9 => h9.2) (sa 208) "no such position" kx_78 kx_79 (zy.2.1 _ _ _ hZ (208, "no such position") (List.mem_of_getElem? (i := 6) rfl)) (xn_at zy hZ xa_3) (by decide) (by decide) (by decide) dX12_stopAt_42 dX12_stopAt_45 (Or.inl ⟨dX12_stopAt_46, dX12_stopAt_48, dX12_stopAt_51⟩)

abbrev rm_X12_positionOf : Room := ⟨7, 2, 12, 102⟩
theorem cm_X12_positionOf : cmV yX12_positionOf cX12_positionOf 4 (some .int) 2 := ⟨kx_22, kx_82, ⟨by decide +kernel, by decide +kernel, by decide +kernel⟩, kx_172, kx_173⟩
def f_X12_positionOf (N : Nat) (σ : Sm) (x1 : Int) (x2 : Int) : Option (So Sm) :=
  (f_X8_lineAndStopFault σ 1 x1 x2).bind fun v1 => (f_X12_refuse σ v1).bind fun v2 => if v2.2.1 = 0 then if 0 ≤ x1 ∧ x1 < 5 then (f_X7_placeOf N v2.1 (1 + 23 + 2 * x1.toNat) x2).bind fun v5 => (if v5 = (-1) then some (v2.1, 4, 0) else some (v2.1, 0, v5)) else none else some (xw v2)
theorem ct_X12_positionOf {l : Launch} {cy : Nat → ClassId} {ad : Nat → Nat} {E : Nat → Nat → Nat} {G : va_G} {Z : vZ} {sa : Nat → Nat} (zk : Zk Z E) (zy : Zy Z E sa) (hst : l.stackTraces = false) (N : Nat) (σ : Sm) (x1 : Int) (x2 : Int) (h1 : rng x1) (h2 : rng x2) (hw : wfc σ) (o : So Sm) (h : f_X12_positionOf N σ x1 x2 = some o) : CxI Z l yX12_positionOf cX12_positionOf 4 (some .int) rm_X12_positionOf (wlc cy ad E) wfc G (tyc cy) [.ref (ad 0), vi x1, vi x2] σ o := by
  refine cxI_of zk.1 zy.1 hst (by decide) (Nat.le_of_ble_eq_true rfl) hw o h (fun X A Q hZ hX C => ?_)
  replace hst : X.2.1.stackTraces = false := by rw [hX]; exact hst
  replace C : Cx X (Yc cy ad E G A 4 Q) cX12_positionOf RX12 (some .int) rm_X12_positionOf (tyc cy) := C
  replace hZ : Zx Z X (Yc cy ad E G A 4 Q) := hZ
  show T X (Yc cy ad E G A 4 Q) (fun w => EndXI X (Yc cy ad E G A 4 Q) cX12_positionOf rm_X12_positionOf .int w ∧ EndX X (Yc cy ad E G A 4 Q) cX12_positionOf RX12 rm_X12_positionOf w) 0 0 0 [(0, .ref (ad 0)), (1, vi x1), (2, vi x2)] [] σ (f_X12_positionOf N σ x1 x2)
  unfold f_X12_positionOf
  refine T_aload_n (pc := 0) C dX12_positionOf_0 rfl 0 rfl ?_
  refine Tc_getr (pc := 1) C 0 12 0 13 (rfl : kd 0 = 12) (by decide) (fun _ => rfl) rfl inX12 (by decide) (v := .ref (ad 1)) rfl kx_84 dX12_positionOf_1 ?_
  refine T_iload_n (pc := 4) C dX12_positionOf_4 rfl 1 rfl ?_
  refine T_iload_n (pc := 5) C dX12_positionOf_5 rfl 2 rfl ?_
  refine T_czVep (pc := 6) zk.1 hZ C [vi x1, vi x2] [] (fun o h9 hw => ct_X8_lineAndStopFault zk σ 1 x1 x2 (rfl : kd 1 = 8) h1 h2 hw o h9) kx_170 cm_X8_lineAndStopFault (rcc (rfl : kd 1 = 8) (by decide) (fun _ => rfl) rfl) rfl rfl (Nat.le_of_ble_eq_true rfl) (by decide) (a' := 0) (b' := 0) ⟨rfl, rfl⟩ dX12_positionOf_6 (fun v1 hv1 => ?_)
  refine T_cxSv (pc := 9) zk.1 hZ C [ve E 0 v1] [] (fun o h9 hw => ct_X12_refuse zk zy hst σ v1 hv1 hw o h9) kx_86 cm_X12_refuse rfl rfl (Nat.le_of_ble_eq_true rfl) (by decide) (a' := 1) (b' := 6) ⟨rfl, rfl⟩ dX12_positionOf_9 (g := xw) (fun o h9 h8 => (h9.2 h8).1) (fun v2 => ?_)
  refine T_aload_n (pc := 12) C dX12_positionOf_12 rfl 0 rfl ?_
  refine Tc_getr (pc := 13) C 0 12 0 13 (rfl : kd 0 = 12) (by decide) (fun _ => rfl) rfl inX12 (by decide) (v := .ref (ad 1)) rfl kx_84 dX12_positionOf_13 ?_
  refine Tc_getr (pc := 16) C 1 8 8 10 (rfl : kd 1 = 8) (by decide) (fun _ => rfl) rfl inX8 (by decide) (v := .ref (ad 5)) rfl kx_105 dX12_positionOf_16 ?_
  refine T_iload_n (pc := 19) C dX12_positionOf_19 rfl 1 rfl ?_
  refine T_guard (fun g3 => ?_)
  refine Tc_ald27 (pc := 20) C 1 (rfl : kd 1 = 8) g3 dX12_positionOf_20 (fun y4 => ?_)
  refine T_iload_n (pc := 21) C dX12_positionOf_21 rfl 2 rfl ?_
  refine T_czVip (pc := 22) zk.1 hZ C [vi x2] [] (fun o h9 hw => ct_X7_placeOf zk N v2.1 (1 + 23 + 2 * x1.toNat) x2 y4 h2 hw o h9) kx_171 cm_X7_placeOf (rcc y4 (by decide) (fun _ => rfl) rfl) rfl rfl (Nat.le_of_ble_eq_true rfl) (by decide) (a' := 1) (b' := 6) ⟨rfl, rfl⟩ dX12_positionOf_22 (fun v5 hv5 => ?_)
  refine T_istore_n (pc := 25) (L' := [(3, vi v5), (0, .ref (ad 0)), (1, vi x1), (2, vi x2)]) C dX12_positionOf_25 rfl (Nat.le_of_ble_eq_true rfl) rfl ?_
  refine T_iload_n (pc := 26) C dX12_positionOf_26 rfl 0 rfl ?_
  refine T_iconst (pc := 27) C dX12_positionOf_27 ?_
  refine T_icmp_ne (pc := 28) C 41 dX12_positionOf_28 rfl hv5.1 (rngL rfl) (fun c6 => ?_) (fun c6 => ?_)
  · refine T_iload_n (pc := 41) C dX12_positionOf_41 rfl 0 rfl ?_
    exact T_xiret (pc := 42) (v2.1, 0, v5) (v2.1, 0, v5) rfl (fun h9 => h9.1) hv5.1 (nar_I _) (by decide) dX12_positionOf_42
  · exact T_throwN (pc := 31) (v2.1, 4, 0) (fun h9 => h9.2) (sa 222) "the stop is not in the ring" kx_78 kx_79 (zy.2.1 _ _ _ hZ (222, "the stop is not in the ring") (List.mem_of_getElem? (i := 7) rfl)) (xn_at zy hZ xa_3) (by decide) (by decide) (by decide) dX12_positionOf_31 dX12_positionOf_34 (Or.inl ⟨dX12_positionOf_35, dX12_positionOf_37, dX12_positionOf_40⟩)

abbrev rm_X12_hopMinutes : Room := ⟨7, 1, 6, 102⟩
theorem cm_X12_hopMinutes : cmV yX12_hopMinutes cX12_hopMinutes 2 (some .int) 1 := ⟨kx_23, kx_82, ⟨by decide +kernel, by decide +kernel, by decide +kernel⟩, kx_175, kx_176⟩
def f_X12_hopMinutes (σ : Sm) (x1 : Int) : Option (So Sm) :=
  (f_X8_lineIndexFault σ 1 x1).bind fun v1 => (f_X12_refuse σ v1).bind fun v2 => if v2.2.1 = 0 then if 0 ≤ x1 ∧ x1 < 5 then (f_X7_pace v2.1 (1 + 23 + 2 * x1.toNat) (v2.1 1 1)).bind fun v6 => some (v2.1, 0, v6) else none else some (xw v2)
theorem ct_X12_hopMinutes {l : Launch} {cy : Nat → ClassId} {ad : Nat → Nat} {E : Nat → Nat → Nat} {G : va_G} {Z : vZ} {sa : Nat → Nat} (zk : Zk Z E) (zy : Zy Z E sa) (hst : l.stackTraces = false) (σ : Sm) (x1 : Int) (h1 : rng x1) (hw : wfc σ) (o : So Sm) (h : f_X12_hopMinutes σ x1 = some o) : CxI Z l yX12_hopMinutes cX12_hopMinutes 2 (some .int) rm_X12_hopMinutes (wlc cy ad E) wfc G (tyc cy) [.ref (ad 0), vi x1] σ o := by
  refine cxI_of zk.1 zy.1 hst (by decide) (Nat.le_of_ble_eq_true rfl) hw o h (fun X A Q hZ hX C => ?_)
  replace hst : X.2.1.stackTraces = false := by rw [hX]; exact hst
  replace C : Cx X (Yc cy ad E G A 2 Q) cX12_hopMinutes RX12 (some .int) rm_X12_hopMinutes (tyc cy) := C
  replace hZ : Zx Z X (Yc cy ad E G A 2 Q) := hZ
  show T X (Yc cy ad E G A 2 Q) (fun w => EndXI X (Yc cy ad E G A 2 Q) cX12_hopMinutes rm_X12_hopMinutes .int w ∧ EndX X (Yc cy ad E G A 2 Q) cX12_hopMinutes RX12 rm_X12_hopMinutes w) 0 0 0 [(0, .ref (ad 0)), (1, vi x1)] [] σ (f_X12_hopMinutes σ x1)
  unfold f_X12_hopMinutes
  refine T_aload_n (pc := 0) C dX12_hopMinutes_0 rfl 0 rfl ?_
  refine Tc_getr (pc := 1) C 0 12 0 13 (rfl : kd 0 = 12) (by decide) (fun _ => rfl) rfl inX12 (by decide) (v := .ref (ad 1)) rfl kx_84 dX12_hopMinutes_1 ?_
  refine T_iload_n (pc := 4) C dX12_hopMinutes_4 rfl 1 rfl ?_
  refine T_czVep (pc := 5) zk.1 hZ C [vi x1] [] (fun o h9 hw => ct_X8_lineIndexFault zk σ 1 x1 (rfl : kd 1 = 8) h1 hw o h9) kx_124 cm_X8_lineIndexFault (rcc (rfl : kd 1 = 8) (by decide) (fun _ => rfl) rfl) rfl rfl (Nat.le_of_ble_eq_true rfl) (by decide) (a' := 0) (b' := 0) ⟨rfl, rfl⟩ dX12_hopMinutes_5 (fun v1 hv1 => ?_)
  refine T_cxSv (pc := 8) zk.1 hZ C [ve E 0 v1] [] (fun o h9 hw => ct_X12_refuse zk zy hst σ v1 hv1 hw o h9) kx_86 cm_X12_refuse rfl rfl (Nat.le_of_ble_eq_true rfl) (by decide) (a' := 1) (b' := 6) ⟨rfl, rfl⟩ dX12_hopMinutes_8 (g := xw) (fun o h9 h8 => (h9.2 h8).1) (fun v2 => ?_)
  refine T_aload_n (pc := 11) C dX12_hopMinutes_11 rfl 0 rfl ?_
  refine Tc_getr (pc := 12) C 0 12 0 13 (rfl : kd 0 = 12) (by decide) (fun _ => rfl) rfl inX12 (by decide) (v := .ref (ad 1)) rfl kx_84 dX12_hopMinutes_12 ?_
  refine Tc_getr (pc := 15) C 1 8 8 10 (rfl : kd 1 = 8) (by decide) (fun _ => rfl) rfl inX8 (by decide) (v := .ref (ad 5)) rfl kx_105 dX12_hopMinutes_15 ?_
  refine T_iload_n (pc := 18) C dX12_hopMinutes_18 rfl 1 rfl ?_
  refine T_guard (fun g3 => ?_)
  refine Tc_ald27 (pc := 19) C 1 (rfl : kd 1 = 8) g3 dX12_hopMinutes_19 (fun y4 => ?_)
  refine T_aload_n (pc := 20) C dX12_hopMinutes_20 rfl 0 rfl ?_
  refine Tc_getr (pc := 21) C 0 12 0 13 (rfl : kd 0 = 12) (by decide) (fun _ => rfl) rfl inX12 (by decide) (v := .ref (ad 1)) rfl kx_84 dX12_hopMinutes_21 ?_
  refine Tc_geti (pc := 24) C 1 8 1 10 (rfl : kd 1 = 8) (by decide) (fun _ => rfl) rfl inX8 (by decide) rfl kx_113 dX12_hopMinutes_24 (fun z5 => ?_)
  refine T_czVip (pc := 27) zk.1 hZ C [vi (v2.1 1 1)] [] (fun o h9 hw => ct_X7_pace zk v2.1 (1 + 23 + 2 * x1.toNat) (v2.1 1 1) y4 (z5.2 rfl) hw o h9) kx_174 cm_X7_pace (rcc y4 (by decide) (fun _ => rfl) rfl) rfl rfl (Nat.le_of_ble_eq_true rfl) (by decide) (a' := 1) (b' := 6) ⟨rfl, rfl⟩ dX12_hopMinutes_27 (fun v6 hv6 => ?_)
  exact T_xiret (pc := 30) (v2.1, 0, v6) (v2.1, 0, v6) rfl (fun h9 => h9.1) hv6.1 (nar_I _) (by decide) dX12_hopMinutes_30

abbrev rm_X12_runs : Room := ⟨7, 1, 6, 102⟩
theorem cm_X12_runs : cmV yX12_runs cX12_runs 2 (some .boolean) 1 := ⟨kx_24, kx_82, ⟨by decide +kernel, by decide +kernel, by decide +kernel⟩, kx_178, kx_179⟩
def f_X12_runs (σ : Sm) (x1 : Int) : Option (So Sm) :=
  (f_X8_lineIndexFault σ 1 x1).bind fun v1 => (f_X12_refuse σ v1).bind fun v2 => if v2.2.1 = 0 then if 0 ≤ x1 ∧ x1 < 5 then (f_X7_isRunning v2.1 (1 + 23 + 2 * x1.toNat)).bind fun v5 => some (v2.1, 0, v5) else none else some (xw v2)
theorem ct_X12_runs {l : Launch} {cy : Nat → ClassId} {ad : Nat → Nat} {E : Nat → Nat → Nat} {G : va_G} {Z : vZ} {sa : Nat → Nat} (zk : Zk Z E) (zy : Zy Z E sa) (hst : l.stackTraces = false) (σ : Sm) (x1 : Int) (h1 : rng x1) (hw : wfc σ) (o : So Sm) (h : f_X12_runs σ x1 = some o) : CxI Z l yX12_runs cX12_runs 2 (some .boolean) rm_X12_runs (wlc cy ad E) wfc G (tyc cy) [.ref (ad 0), vi x1] σ o := by
  refine cxI_of zk.1 zy.1 hst (by decide) (Nat.le_of_ble_eq_true rfl) hw o h (fun X A Q hZ hX C => ?_)
  replace hst : X.2.1.stackTraces = false := by rw [hX]; exact hst
  replace C : Cx X (Yc cy ad E G A 2 Q) cX12_runs RX12 (some .boolean) rm_X12_runs (tyc cy) := C
  replace hZ : Zx Z X (Yc cy ad E G A 2 Q) := hZ
  show T X (Yc cy ad E G A 2 Q) (fun w => EndXI X (Yc cy ad E G A 2 Q) cX12_runs rm_X12_runs .boolean w ∧ EndX X (Yc cy ad E G A 2 Q) cX12_runs RX12 rm_X12_runs w) 0 0 0 [(0, .ref (ad 0)), (1, vi x1)] [] σ (f_X12_runs σ x1)
  unfold f_X12_runs
  refine T_aload_n (pc := 0) C dX12_runs_0 rfl 0 rfl ?_
  refine Tc_getr (pc := 1) C 0 12 0 13 (rfl : kd 0 = 12) (by decide) (fun _ => rfl) rfl inX12 (by decide) (v := .ref (ad 1)) rfl kx_84 dX12_runs_1 ?_
  refine T_iload_n (pc := 4) C dX12_runs_4 rfl 1 rfl ?_
  refine T_czVep (pc := 5) zk.1 hZ C [vi x1] [] (fun o h9 hw => ct_X8_lineIndexFault zk σ 1 x1 (rfl : kd 1 = 8) h1 hw o h9) kx_124 cm_X8_lineIndexFault (rcc (rfl : kd 1 = 8) (by decide) (fun _ => rfl) rfl) rfl rfl (Nat.le_of_ble_eq_true rfl) (by decide) (a' := 0) (b' := 0) ⟨rfl, rfl⟩ dX12_runs_5 (fun v1 hv1 => ?_)
  refine T_cxSv (pc := 8) zk.1 hZ C [ve E 0 v1] [] (fun o h9 hw => ct_X12_refuse zk zy hst σ v1 hv1 hw o h9) kx_86 cm_X12_refuse rfl rfl (Nat.le_of_ble_eq_true rfl) (by decide) (a' := 1) (b' := 6) ⟨rfl, rfl⟩ dX12_runs_8 (g := xw) (fun o h9 h8 => (h9.2 h8).1) (fun v2 => ?_)
  refine T_aload_n (pc := 11) C dX12_runs_11 rfl 0 rfl ?_
  refine Tc_getr (pc := 12) C 0 12 0 13 (rfl : kd 0 = 12) (by decide) (fun _ => rfl) rfl inX12 (by decide) (v := .ref (ad 1)) rfl kx_84 dX12_runs_12 ?_
  refine Tc_getr (pc := 15) C 1 8 8 10 (rfl : kd 1 = 8) (by decide) (fun _ => rfl) rfl inX8 (by decide) (v := .ref (ad 5)) rfl kx_105 dX12_runs_15 ?_
  refine T_iload_n (pc := 18) C dX12_runs_18 rfl 1 rfl ?_
  refine T_guard (fun g3 => ?_)
  refine Tc_ald27 (pc := 19) C 1 (rfl : kd 1 = 8) g3 dX12_runs_19 (fun y4 => ?_)
  refine T_czVip (pc := 20) zk.1 hZ C [] [] (fun o h9 hw => ct_X7_isRunning zk v2.1 (1 + 23 + 2 * x1.toNat) y4 hw o h9) kx_177 cm_X7_isRunning (rcc y4 (by decide) (fun _ => rfl) rfl) rfl rfl (Nat.le_of_ble_eq_true rfl) (by decide) (a' := 1) (b' := 6) ⟨rfl, rfl⟩ dX12_runs_20 (fun v5 hv5 => ?_)
  exact T_xiret (pc := 23) (v2.1, 0, v5) (v2.1, 0, v5) rfl (fun h9 => h9.1) hv5.1 (nar_Z (bit_of_nar hv5)) (by decide) dX12_runs_23

abbrev rm_X12_tripMinute : Room := ⟨7, 1, 6, 102⟩
theorem cm_X12_tripMinute : cmV yX12_tripMinute cX12_tripMinute 4 (some .int) 3 := ⟨kx_25, kx_82, ⟨by decide +kernel, by decide +kernel, by decide +kernel⟩, kx_182, kx_183⟩
def f_X12_tripMinute (σ : Sm) (x1 : Int) (x2 : Int) (x3 : Int) : Option (So Sm) :=
  (f_X8_tripFault σ 1 x1 x2 x3).bind fun v1 => (f_X12_refuse σ v1).bind fun v2 => if v2.2.1 = 0 then if 0 ≤ x1 ∧ x1 < 5 then (f_X7_whenAt v2.1 (1 + 23 + 2 * x1.toNat) x2 x3 (v2.1 1 1)).bind fun v6 => some (v2.1, 0, v6) else none else some (xw v2)
theorem ct_X12_tripMinute {l : Launch} {cy : Nat → ClassId} {ad : Nat → Nat} {E : Nat → Nat → Nat} {G : va_G} {Z : vZ} {sa : Nat → Nat} (zk : Zk Z E) (zy : Zy Z E sa) (hst : l.stackTraces = false) (σ : Sm) (x1 : Int) (x2 : Int) (x3 : Int) (h1 : rng x1) (h2 : rng x2) (h3 : rng x3) (hw : wfc σ) (o : So Sm) (h : f_X12_tripMinute σ x1 x2 x3 = some o) : CxI Z l yX12_tripMinute cX12_tripMinute 4 (some .int) rm_X12_tripMinute (wlc cy ad E) wfc G (tyc cy) [.ref (ad 0), vi x1, vi x2, vi x3] σ o := by
  refine cxI_of zk.1 zy.1 hst (by decide) (Nat.le_of_ble_eq_true rfl) hw o h (fun X A Q hZ hX C => ?_)
  replace hst : X.2.1.stackTraces = false := by rw [hX]; exact hst
  replace C : Cx X (Yc cy ad E G A 4 Q) cX12_tripMinute RX12 (some .int) rm_X12_tripMinute (tyc cy) := C
  replace hZ : Zx Z X (Yc cy ad E G A 4 Q) := hZ
  show T X (Yc cy ad E G A 4 Q) (fun w => EndXI X (Yc cy ad E G A 4 Q) cX12_tripMinute rm_X12_tripMinute .int w ∧ EndX X (Yc cy ad E G A 4 Q) cX12_tripMinute RX12 rm_X12_tripMinute w) 0 0 0 [(0, .ref (ad 0)), (1, vi x1), (2, vi x2), (3, vi x3)] [] σ (f_X12_tripMinute σ x1 x2 x3)
  unfold f_X12_tripMinute
  refine T_aload_n (pc := 0) C dX12_tripMinute_0 rfl 0 rfl ?_
  refine Tc_getr (pc := 1) C 0 12 0 13 (rfl : kd 0 = 12) (by decide) (fun _ => rfl) rfl inX12 (by decide) (v := .ref (ad 1)) rfl kx_84 dX12_tripMinute_1 ?_
  refine T_iload_n (pc := 4) C dX12_tripMinute_4 rfl 1 rfl ?_
  refine T_iload_n (pc := 5) C dX12_tripMinute_5 rfl 2 rfl ?_
  refine T_iload_n (pc := 6) C dX12_tripMinute_6 rfl 3 rfl ?_
  refine T_czVep (pc := 7) zk.1 hZ C [vi x1, vi x2, vi x3] [] (fun o h9 hw => ct_X8_tripFault zk σ 1 x1 x2 x3 (rfl : kd 1 = 8) h1 h2 h3 hw o h9) kx_180 cm_X8_tripFault (rcc (rfl : kd 1 = 8) (by decide) (fun _ => rfl) rfl) rfl rfl (Nat.le_of_ble_eq_true rfl) (by decide) (a' := 0) (b' := 0) ⟨rfl, rfl⟩ dX12_tripMinute_7 (fun v1 hv1 => ?_)
  refine T_cxSv (pc := 10) zk.1 hZ C [ve E 0 v1] [] (fun o h9 hw => ct_X12_refuse zk zy hst σ v1 hv1 hw o h9) kx_86 cm_X12_refuse rfl rfl (Nat.le_of_ble_eq_true rfl) (by decide) (a' := 1) (b' := 6) ⟨rfl, rfl⟩ dX12_tripMinute_10 (g := xw) (fun o h9 h8 => (h9.2 h8).1) (fun v2 => ?_)
  refine T_aload_n (pc := 13) C dX12_tripMinute_13 rfl 0 rfl ?_
  refine Tc_getr (pc := 14) C 0 12 0 13 (rfl : kd 0 = 12) (by decide) (fun _ => rfl) rfl inX12 (by decide) (v := .ref (ad 1)) rfl kx_84 dX12_tripMinute_14 ?_
  refine Tc_getr (pc := 17) C 1 8 8 10 (rfl : kd 1 = 8) (by decide) (fun _ => rfl) rfl inX8 (by decide) (v := .ref (ad 5)) rfl kx_105 dX12_tripMinute_17 ?_
  refine T_iload_n (pc := 20) C dX12_tripMinute_20 rfl 1 rfl ?_
  refine T_guard (fun g3 => ?_)
  refine Tc_ald27 (pc := 21) C 1 (rfl : kd 1 = 8) g3 dX12_tripMinute_21 (fun y4 => ?_)
  refine T_iload_n (pc := 22) C dX12_tripMinute_22 rfl 2 rfl ?_
  refine T_iload_n (pc := 23) C dX12_tripMinute_23 rfl 3 rfl ?_
  refine T_aload_n (pc := 24) C dX12_tripMinute_24 rfl 0 rfl ?_
  refine Tc_getr (pc := 25) C 0 12 0 13 (rfl : kd 0 = 12) (by decide) (fun _ => rfl) rfl inX12 (by decide) (v := .ref (ad 1)) rfl kx_84 dX12_tripMinute_25 ?_
  refine Tc_geti (pc := 28) C 1 8 1 10 (rfl : kd 1 = 8) (by decide) (fun _ => rfl) rfl inX8 (by decide) rfl kx_113 dX12_tripMinute_28 (fun z5 => ?_)
  refine T_czVip (pc := 31) zk.1 hZ C [vi x2, vi x3, vi (v2.1 1 1)] [] (fun o h9 hw => ct_X7_whenAt zk v2.1 (1 + 23 + 2 * x1.toNat) x2 x3 (v2.1 1 1) y4 h2 h3 (z5.2 rfl) hw o h9) kx_181 cm_X7_whenAt (rcc y4 (by decide) (fun _ => rfl) rfl) rfl rfl (Nat.le_of_ble_eq_true rfl) (by decide) (a' := 1) (b' := 6) ⟨rfl, rfl⟩ dX12_tripMinute_31 (fun v6 hv6 => ?_)
  exact T_xiret (pc := 34) (v2.1, 0, v6) (v2.1, 0, v6) rfl (fun h9 => h9.1) hv6.1 (nar_I _) (by decide) dX12_tripMinute_34

abbrev rm_X12_nextTrip : Room := ⟨7, 1, 6, 102⟩
theorem cm_X12_nextTrip : cmV yX12_nextTrip cX12_nextTrip 4 (some .int) 3 := ⟨kx_26, kx_82, ⟨by decide +kernel, by decide +kernel, by decide +kernel⟩, kx_186, kx_187⟩
def f_X12_nextTrip (σ : Sm) (x1 : Int) (x2 : Int) (x3 : Int) : Option (So Sm) :=
  (f_X8_nextTripFault σ 1 x1 x2 x3).bind fun v1 => (f_X12_refuse σ v1).bind fun v2 => if v2.2.1 = 0 then if 0 ≤ x1 ∧ x1 < 5 then (f_X7_firstTrip v2.1 (1 + 23 + 2 * x1.toNat) x2 x3 (v2.1 1 1)).bind fun v6 => some (v2.1, 0, v6) else none else some (xw v2)
theorem ct_X12_nextTrip {l : Launch} {cy : Nat → ClassId} {ad : Nat → Nat} {E : Nat → Nat → Nat} {G : va_G} {Z : vZ} {sa : Nat → Nat} (zk : Zk Z E) (zy : Zy Z E sa) (hst : l.stackTraces = false) (σ : Sm) (x1 : Int) (x2 : Int) (x3 : Int) (h1 : rng x1) (h2 : rng x2) (h3 : rng x3) (hw : wfc σ) (o : So Sm) (h : f_X12_nextTrip σ x1 x2 x3 = some o) : CxI Z l yX12_nextTrip cX12_nextTrip 4 (some .int) rm_X12_nextTrip (wlc cy ad E) wfc G (tyc cy) [.ref (ad 0), vi x1, vi x2, vi x3] σ o := by
  refine cxI_of zk.1 zy.1 hst (by decide) (Nat.le_of_ble_eq_true rfl) hw o h (fun X A Q hZ hX C => ?_)
  replace hst : X.2.1.stackTraces = false := by rw [hX]; exact hst
  replace C : Cx X (Yc cy ad E G A 4 Q) cX12_nextTrip RX12 (some .int) rm_X12_nextTrip (tyc cy) := C
  replace hZ : Zx Z X (Yc cy ad E G A 4 Q) := hZ
  show T X (Yc cy ad E G A 4 Q) (fun w => EndXI X (Yc cy ad E G A 4 Q) cX12_nextTrip rm_X12_nextTrip .int w ∧ EndX X (Yc cy ad E G A 4 Q) cX12_nextTrip RX12 rm_X12_nextTrip w) 0 0 0 [(0, .ref (ad 0)), (1, vi x1), (2, vi x2), (3, vi x3)] [] σ (f_X12_nextTrip σ x1 x2 x3)
  unfold f_X12_nextTrip
  refine T_aload_n (pc := 0) C dX12_nextTrip_0 rfl 0 rfl ?_
  refine Tc_getr (pc := 1) C 0 12 0 13 (rfl : kd 0 = 12) (by decide) (fun _ => rfl) rfl inX12 (by decide) (v := .ref (ad 1)) rfl kx_84 dX12_nextTrip_1 ?_
  refine T_iload_n (pc := 4) C dX12_nextTrip_4 rfl 1 rfl ?_
  refine T_iload_n (pc := 5) C dX12_nextTrip_5 rfl 2 rfl ?_
  refine T_iload_n (pc := 6) C dX12_nextTrip_6 rfl 3 rfl ?_
  refine T_czVep (pc := 7) zk.1 hZ C [vi x1, vi x2, vi x3] [] (fun o h9 hw => ct_X8_nextTripFault zk σ 1 x1 x2 x3 (rfl : kd 1 = 8) h1 h2 h3 hw o h9) kx_184 cm_X8_nextTripFault (rcc (rfl : kd 1 = 8) (by decide) (fun _ => rfl) rfl) rfl rfl (Nat.le_of_ble_eq_true rfl) (by decide) (a' := 0) (b' := 0) ⟨rfl, rfl⟩ dX12_nextTrip_7 (fun v1 hv1 => ?_)
  refine T_cxSv (pc := 10) zk.1 hZ C [ve E 0 v1] [] (fun o h9 hw => ct_X12_refuse zk zy hst σ v1 hv1 hw o h9) kx_86 cm_X12_refuse rfl rfl (Nat.le_of_ble_eq_true rfl) (by decide) (a' := 1) (b' := 6) ⟨rfl, rfl⟩ dX12_nextTrip_10 (g := xw) (fun o h9 h8 => (h9.2 h8).1) (fun v2 => ?_)
  refine T_aload_n (pc := 13) C dX12_nextTrip_13 rfl 0 rfl ?_
  refine Tc_getr (pc := 14) C 0 12 0 13 (rfl : kd 0 = 12) (by decide) (fun _ => rfl) rfl inX12 (by decide) (v := .ref (ad 1)) rfl kx_84 dX12_nextTrip_14 ?_
  refine Tc_getr (pc := 17) C 1 8 8 10 (rfl : kd 1 = 8) (by decide) (fun _ => rfl) rfl inX8 (by decide) (v := .ref (ad 5)) rfl kx_105 dX12_nextTrip_17 ?_
  refine T_iload_n (pc := 20) C dX12_nextTrip_20 rfl 1 rfl ?_
  refine T_guard (fun g3 => ?_)
  refine Tc_ald27 (pc := 21) C 1 (rfl : kd 1 = 8) g3 dX12_nextTrip_21 (fun y4 => ?_)
  refine T_iload_n (pc := 22) C dX12_nextTrip_22 rfl 2 rfl ?_
  refine T_iload_n (pc := 23) C dX12_nextTrip_23 rfl 3 rfl ?_
  refine T_aload_n (pc := 24) C dX12_nextTrip_24 rfl 0 rfl ?_
  refine Tc_getr (pc := 25) C 0 12 0 13 (rfl : kd 0 = 12) (by decide) (fun _ => rfl) rfl inX12 (by decide) (v := .ref (ad 1)) rfl kx_84 dX12_nextTrip_25 ?_
  refine Tc_geti (pc := 28) C 1 8 1 10 (rfl : kd 1 = 8) (by decide) (fun _ => rfl) rfl inX8 (by decide) rfl kx_113 dX12_nextTrip_28 (fun z5 => ?_)
  refine T_czVip (pc := 31) zk.1 hZ C [vi x2, vi x3, vi (v2.1 1 1)] [] (fun o h9 hw => ct_X7_firstTrip zk v2.1 (1 + 23 + 2 * x1.toNat) x2 x3 (v2.1 1 1) y4 h2 h3 (z5.2 rfl) hw o h9) kx_185 cm_X7_firstTrip (rcc y4 (by decide) (fun _ => rfl) rfl) rfl rfl (Nat.le_of_ble_eq_true rfl) (by decide) (a' := 1) (b' := 6) ⟨rfl, rfl⟩ dX12_nextTrip_31 (fun v6 hv6 => ?_)
  exact T_xiret (pc := 34) (v2.1, 0, v6) (v2.1, 0, v6) rfl (fun h9 => h9.1) hv6.1 (nar_I _) (by decide) dX12_nextTrip_34

abbrev rm_X12_nextTripBySearch : Room := ⟨7, 1, 6, 102⟩
theorem cm_X12_nextTripBySearch : cmV yX12_nextTripBySearch cX12_nextTripBySearch 4 (some .int) 3 := ⟨kx_27, kx_82, ⟨by decide +kernel, by decide +kernel, by decide +kernel⟩, kx_189, kx_190⟩
def f_X12_nextTripBySearch (N : Nat) (σ : Sm) (x1 : Int) (x2 : Int) (x3 : Int) : Option (So Sm) :=
  (f_X8_nextTripFault σ 1 x1 x2 x3).bind fun v1 => (f_X12_refuse σ v1).bind fun v2 => if v2.2.1 = 0 then if 0 ≤ x1 ∧ x1 < 5 then (f_X7_firstTripTried N v2.1 (1 + 23 + 2 * x1.toNat) x2 x3 (v2.1 1 1)).bind fun v6 => some (v2.1, 0, v6) else none else some (xw v2)
theorem ct_X12_nextTripBySearch {l : Launch} {cy : Nat → ClassId} {ad : Nat → Nat} {E : Nat → Nat → Nat} {G : va_G} {Z : vZ} {sa : Nat → Nat} (zk : Zk Z E) (zy : Zy Z E sa) (hst : l.stackTraces = false) (N : Nat) (σ : Sm) (x1 : Int) (x2 : Int) (x3 : Int) (h1 : rng x1) (h2 : rng x2) (h3 : rng x3) (hw : wfc σ) (o : So Sm) (h : f_X12_nextTripBySearch N σ x1 x2 x3 = some o) : CxI Z l yX12_nextTripBySearch cX12_nextTripBySearch 4 (some .int) rm_X12_nextTripBySearch (wlc cy ad E) wfc G (tyc cy) [.ref (ad 0), vi x1, vi x2, vi x3] σ o := by
  refine cxI_of zk.1 zy.1 hst (by decide) (Nat.le_of_ble_eq_true rfl) hw o h (fun X A Q hZ hX C => ?_)
  replace hst : X.2.1.stackTraces = false := by rw [hX]; exact hst
  replace C : Cx X (Yc cy ad E G A 4 Q) cX12_nextTripBySearch RX12 (some .int) rm_X12_nextTripBySearch (tyc cy) := C
  replace hZ : Zx Z X (Yc cy ad E G A 4 Q) := hZ
  show T X (Yc cy ad E G A 4 Q) (fun w => EndXI X (Yc cy ad E G A 4 Q) cX12_nextTripBySearch rm_X12_nextTripBySearch .int w ∧ EndX X (Yc cy ad E G A 4 Q) cX12_nextTripBySearch RX12 rm_X12_nextTripBySearch w) 0 0 0 [(0, .ref (ad 0)), (1, vi x1), (2, vi x2), (3, vi x3)] [] σ (f_X12_nextTripBySearch N σ x1 x2 x3)
  unfold f_X12_nextTripBySearch
  refine T_aload_n (pc := 0) C dX12_nextTripBySearch_0 rfl 0 rfl ?_
  refine Tc_getr (pc := 1) C 0 12 0 13 (rfl : kd 0 = 12) (by decide) (fun _ => rfl) rfl inX12 (by decide) (v := .ref (ad 1)) rfl kx_84 dX12_nextTripBySearch_1 ?_
  refine T_iload_n (pc := 4) C dX12_nextTripBySearch_4 rfl 1 rfl ?_
  refine T_iload_n (pc := 5) C dX12_nextTripBySearch_5 rfl 2 rfl ?_
  refine T_iload_n (pc := 6) C dX12_nextTripBySearch_6 rfl 3 rfl ?_
  refine T_czVep (pc := 7) zk.1 hZ C [vi x1, vi x2, vi x3] [] (fun o h9 hw => ct_X8_nextTripFault zk σ 1 x1 x2 x3 (rfl : kd 1 = 8) h1 h2 h3 hw o h9) kx_184 cm_X8_nextTripFault (rcc (rfl : kd 1 = 8) (by decide) (fun _ => rfl) rfl) rfl rfl (Nat.le_of_ble_eq_true rfl) (by decide) (a' := 0) (b' := 0) ⟨rfl, rfl⟩ dX12_nextTripBySearch_7 (fun v1 hv1 => ?_)
  refine T_cxSv (pc := 10) zk.1 hZ C [ve E 0 v1] [] (fun o h9 hw => ct_X12_refuse zk zy hst σ v1 hv1 hw o h9) kx_86 cm_X12_refuse rfl rfl (Nat.le_of_ble_eq_true rfl) (by decide) (a' := 1) (b' := 6) ⟨rfl, rfl⟩ dX12_nextTripBySearch_10 (g := xw) (fun o h9 h8 => (h9.2 h8).1) (fun v2 => ?_)
  refine T_aload_n (pc := 13) C dX12_nextTripBySearch_13 rfl 0 rfl ?_
  refine Tc_getr (pc := 14) C 0 12 0 13 (rfl : kd 0 = 12) (by decide) (fun _ => rfl) rfl inX12 (by decide) (v := .ref (ad 1)) rfl kx_84 dX12_nextTripBySearch_14 ?_
  refine Tc_getr (pc := 17) C 1 8 8 10 (rfl : kd 1 = 8) (by decide) (fun _ => rfl) rfl inX8 (by decide) (v := .ref (ad 5)) rfl kx_105 dX12_nextTripBySearch_17 ?_
  refine T_iload_n (pc := 20) C dX12_nextTripBySearch_20 rfl 1 rfl ?_
  refine T_guard (fun g3 => ?_)
  refine Tc_ald27 (pc := 21) C 1 (rfl : kd 1 = 8) g3 dX12_nextTripBySearch_21 (fun y4 => ?_)
  refine T_iload_n (pc := 22) C dX12_nextTripBySearch_22 rfl 2 rfl ?_
  refine T_iload_n (pc := 23) C dX12_nextTripBySearch_23 rfl 3 rfl ?_
  refine T_aload_n (pc := 24) C dX12_nextTripBySearch_24 rfl 0 rfl ?_
  refine Tc_getr (pc := 25) C 0 12 0 13 (rfl : kd 0 = 12) (by decide) (fun _ => rfl) rfl inX12 (by decide) (v := .ref (ad 1)) rfl kx_84 dX12_nextTripBySearch_25 ?_
  refine Tc_geti (pc := 28) C 1 8 1 10 (rfl : kd 1 = 8) (by decide) (fun _ => rfl) rfl inX8 (by decide) rfl kx_113 dX12_nextTripBySearch_28 (fun z5 => ?_)
  refine T_czVip (pc := 31) zk.1 hZ C [vi x2, vi x3, vi (v2.1 1 1)] [] (fun o h9 hw => ct_X7_firstTripTried zk N v2.1 (1 + 23 + 2 * x1.toNat) x2 x3 (v2.1 1 1) y4 h2 h3 (z5.2 rfl) hw o h9) kx_188 cm_X7_firstTripTried (rcc y4 (by decide) (fun _ => rfl) rfl) rfl rfl (Nat.le_of_ble_eq_true rfl) (by decide) (a' := 1) (b' := 6) ⟨rfl, rfl⟩ dX12_nextTripBySearch_31 (fun v6 hv6 => ?_)
  exact T_xiret (pc := 34) (v2.1, 0, v6) (v2.1, 0, v6) rfl (fun h9 => h9.1) hv6.1 (nar_I _) (by decide) dX12_nextTripBySearch_34

abbrev rm_X12_journeyFound : Room := ⟨6, 1, 6, 82⟩
theorem cm_X12_journeyFound : cmS yX12_journeyFound cX12_journeyFound 1 (some .int) 1 := ⟨kx_57, kx_82, ⟨by decide +kernel, by decide +kernel, by decide +kernel⟩, kx_192⟩
def f_X12_journeyFound (σ : Sm) (x0 : Int) : Option (So Sm) :=
  (if x0 < 1000000000 then some (σ, 0, x0) else some (σ, 4, 0))
theorem ct_X12_journeyFound {l : Launch} {cy : Nat → ClassId} {ad : Nat → Nat} {E : Nat → Nat → Nat} {G : va_G} {Z : vZ} {sa : Nat → Nat} (zk : Zk Z E) (zy : Zy Z E sa) (hst : l.stackTraces = false) (σ : Sm) (x0 : Int) (h0 : rng x0) (hw : wfc σ) (o : So Sm) (h : f_X12_journeyFound σ x0 = some o) : CxI Z l yX12_journeyFound cX12_journeyFound 1 (some .int) rm_X12_journeyFound (wlc cy ad E) wfc G (tyc cy) [vi x0] σ o := by
  refine cxI_of zk.1 zy.1 hst (by decide) (Nat.le_of_ble_eq_true rfl) hw o h (fun X A Q hZ hX C => ?_)
  replace hst : X.2.1.stackTraces = false := by rw [hX]; exact hst
  replace C : Cx X (Yc cy ad E G A 1 Q) cX12_journeyFound RX12 (some .int) rm_X12_journeyFound (tyc cy) := C
  replace hZ : Zx Z X (Yc cy ad E G A 1 Q) := hZ
  show T X (Yc cy ad E G A 1 Q) (fun w => EndXI X (Yc cy ad E G A 1 Q) cX12_journeyFound rm_X12_journeyFound .int w ∧ EndX X (Yc cy ad E G A 1 Q) cX12_journeyFound RX12 rm_X12_journeyFound w) 0 0 0 [(0, vi x0)] [] σ (f_X12_journeyFound σ x0)
  unfold f_X12_journeyFound
  refine T_iload_n (pc := 0) C dX12_journeyFound_0 rfl 0 rfl ?_
  refine T_ldcw (pc := 1) C 1000000000 dX12_journeyFound_1 kx_191 (by decide) ?_
  refine T_icmp_lt (pc := 4) C 18 dX12_journeyFound_4 rfl h0 (rngL rfl) (fun c1 => ?_) (fun c1 => ?_)
  · refine T_iload_n (pc := 18) C dX12_journeyFound_18 rfl 0 rfl ?_
    exact T_xiret (pc := 19) (σ, 0, x0) (σ, 0, x0) rfl (fun h9 => h9.1) h0 (nar_I _) (by decide) dX12_journeyFound_19
  · exact T_throwN (pc := 7) (σ, 4, 0) (fun h9 => h9.2) (sa 471) "no such journey" kx_78 kx_79 (zy.2.1 _ _ _ hZ (471, "no such journey") (List.mem_of_getElem? (i := 8) rfl)) (xn_at zy hZ xa_3) (by decide) (by decide) (by decide) dX12_journeyFound_7 dX12_journeyFound_10 (Or.inr ⟨dX12_journeyFound_11, dX12_journeyFound_14, dX12_journeyFound_17⟩)

abbrev rm_X12_earliestArrival : Room := ⟨7, 2, 12, 126⟩
theorem cm_X12_earliestArrival : cmV yX12_earliestArrival cX12_earliestArrival 4 (some .int) 3 := ⟨kx_28, kx_82, ⟨by decide +kernel, by decide +kernel, by decide +kernel⟩, kx_198, kx_199⟩
def f_X12_earliestArrival (N : Nat) (σ : Sm) (x1 : Int) (x2 : Int) (x3 : Int) : Option (So Sm) :=
  (f_X8_journeyFault σ 1 x1 x2 x3).bind fun v1 => (f_X12_refuse σ v1).bind fun v2 => if v2.2.1 = 0 then (f_X1_searchEarliest N v2.1 366 1 x1 x3).bind fun s3 => if 0 ≤ x2 ∧ x2 < 10 then (f_X12_journeyFound s3 (s3 367 x2.toNat)).bind fun v6 => if v6.2.1 = 0 then some (v6.1, 0, v6.2.2) else some (xw v6) else none else some (xw v2)
theorem ct_X12_earliestArrival {l : Launch} {cy : Nat → ClassId} {ad : Nat → Nat} {E : Nat → Nat → Nat} {G : va_G} {Z : vZ} {sa : Nat → Nat} (zk : Zk Z E) (zy : Zy Z E sa) (hst : l.stackTraces = false) (N : Nat) (σ : Sm) (x1 : Int) (x2 : Int) (x3 : Int) (h1 : rng x1) (h2 : rng x2) (h3 : rng x3) (hw : wfc σ) (o : So Sm) (h : f_X12_earliestArrival N σ x1 x2 x3 = some o) : CxI Z l yX12_earliestArrival cX12_earliestArrival 4 (some .int) rm_X12_earliestArrival (wlc cy ad E) wfc G (tyc cy) [.ref (ad 0), vi x1, vi x2, vi x3] σ o := by
  refine cxI_of zk.1 zy.1 hst (by decide) (Nat.le_of_ble_eq_true rfl) hw o h (fun X A Q hZ hX C => ?_)
  replace hst : X.2.1.stackTraces = false := by rw [hX]; exact hst
  replace C : Cx X (Yc cy ad E G A 4 Q) cX12_earliestArrival RX12 (some .int) rm_X12_earliestArrival (tyc cy) := C
  replace hZ : Zx Z X (Yc cy ad E G A 4 Q) := hZ
  show T X (Yc cy ad E G A 4 Q) (fun w => EndXI X (Yc cy ad E G A 4 Q) cX12_earliestArrival rm_X12_earliestArrival .int w ∧ EndX X (Yc cy ad E G A 4 Q) cX12_earliestArrival RX12 rm_X12_earliestArrival w) 0 0 0 [(0, .ref (ad 0)), (1, vi x1), (2, vi x2), (3, vi x3)] [] σ (f_X12_earliestArrival N σ x1 x2 x3)
  unfold f_X12_earliestArrival
  refine T_aload_n (pc := 0) C dX12_earliestArrival_0 rfl 0 rfl ?_
  refine Tc_getr (pc := 1) C 0 12 0 13 (rfl : kd 0 = 12) (by decide) (fun _ => rfl) rfl inX12 (by decide) (v := .ref (ad 1)) rfl kx_84 dX12_earliestArrival_1 ?_
  refine T_iload_n (pc := 4) C dX12_earliestArrival_4 rfl 1 rfl ?_
  refine T_iload_n (pc := 5) C dX12_earliestArrival_5 rfl 2 rfl ?_
  refine T_iload_n (pc := 6) C dX12_earliestArrival_6 rfl 3 rfl ?_
  refine T_czVep (pc := 7) zk.1 hZ C [vi x1, vi x2, vi x3] [] (fun o h9 hw => ct_X8_journeyFault zk σ 1 x1 x2 x3 (rfl : kd 1 = 8) h1 h2 h3 hw o h9) kx_193 cm_X8_journeyFault (rcc (rfl : kd 1 = 8) (by decide) (fun _ => rfl) rfl) rfl rfl (Nat.le_of_ble_eq_true rfl) (by decide) (a' := 0) (b' := 0) ⟨rfl, rfl⟩ dX12_earliestArrival_7 (fun v1 hv1 => ?_)
  refine T_cxSv (pc := 10) zk.1 hZ C [ve E 0 v1] [] (fun o h9 hw => ct_X12_refuse zk zy hst σ v1 hv1 hw o h9) kx_86 cm_X12_refuse rfl rfl (Nat.le_of_ble_eq_true rfl) (by decide) (a' := 1) (b' := 6) ⟨rfl, rfl⟩ dX12_earliestArrival_10 (g := xw) (fun o h9 h8 => (h9.2 h8).1) (fun v2 => ?_)
  refine T_aload_n (pc := 13) C dX12_earliestArrival_13 rfl 0 rfl ?_
  refine Tc_getr (pc := 14) C 0 12 5 13 (rfl : kd 0 = 12) (by decide) (fun _ => rfl) rfl inX12 (by decide) (v := .ref (ad 366)) rfl kx_194 dX12_earliestArrival_14 ?_
  refine T_aload_n (pc := 17) C dX12_earliestArrival_17 rfl 0 rfl ?_
  refine Tc_getr (pc := 18) C 0 12 0 13 (rfl : kd 0 = 12) (by decide) (fun _ => rfl) rfl inX12 (by decide) (v := .ref (ad 1)) rfl kx_84 dX12_earliestArrival_18 ?_
  refine T_iload_n (pc := 21) C dX12_earliestArrival_21 rfl 1 rfl ?_
  refine T_iload_n (pc := 22) C dX12_earliestArrival_22 rfl 3 rfl ?_
  refine T_czVv (pc := 23) zk.1 hZ C [.ref (ad 1), vi x1, vi x3] [] (fun o h9 hw => ct_X1_searchEarliest zk N v2.1 366 1 x1 x3 (rfl : kd 366 = 1) (rfl : kd 1 = 8) h1 h3 hw o h9) kx_195 cm_X1_searchEarliest (rcc (rfl : kd 366 = 1) (by decide) (fun _ => rfl) rfl) rfl rfl (Nat.le_of_ble_eq_true rfl) (by decide) (a' := 1) (b' := 6) ⟨rfl, rfl⟩ dX12_earliestArrival_23 (fun s3 => ?_)
  refine T_aload_n (pc := 26) C dX12_earliestArrival_26 rfl 0 rfl ?_
  refine Tc_getr (pc := 27) C 0 12 5 13 (rfl : kd 0 = 12) (by decide) (fun _ => rfl) rfl inX12 (by decide) (v := .ref (ad 366)) rfl kx_194 dX12_earliestArrival_27 ?_
  refine Tc_getr (pc := 30) C 366 1 0 4 (rfl : kd 366 = 1) (by decide) (fun _ => rfl) rfl inX1 (by decide) (v := .ref (ad 367)) rfl kx_196 dX12_earliestArrival_30 ?_
  refine T_iload_n (pc := 33) C dX12_earliestArrival_33 rfl 2 rfl ?_
  refine T_guard (fun g4 => ?_)
  refine Tc_iald (pc := 34) C 367 20 10 x2.toNat (kd_1 (rfl : kd 366 = 1)).1 ⟨by decide, by decide⟩ rfl g4 rfl dX12_earliestArrival_34 (fun z5 => ?_)
  refine T_cxSi (pc := 35) zk.1 hZ C [vi (s3 367 x2.toNat)] [] (fun o h9 hw => ct_X12_journeyFound zk zy hst s3 (s3 367 x2.toNat) z5 hw o h9) kx_197 cm_X12_journeyFound rfl rfl (Nat.le_of_ble_eq_true rfl) (by decide) (a' := 2) (b' := 12) ⟨rfl, rfl⟩ dX12_earliestArrival_35 (g := xw) (fun o h9 h8 => (h9.2 h8).1) (fun v6 hv6 => ?_)
  exact T_xiret (pc := 38) (v6.1, 0, v6.2.2) (v6.1, 0, v6.2.2) rfl (fun h9 => h9.1) hv6.1 (nar_I _) (by decide) dX12_earliestArrival_38

abbrev rm_X12_earliestArrivalByRounds : Room := ⟨7, 2, 12, 128⟩
theorem cm_X12_earliestArrivalByRounds : cmV yX12_earliestArrivalByRounds cX12_earliestArrivalByRounds 4 (some .int) 3 := ⟨kx_29, kx_82, ⟨by decide +kernel, by decide +kernel, by decide +kernel⟩, kx_202, kx_203⟩
def f_X12_earliestArrivalByRounds (N : Nat) (σ : Sm) (x1 : Int) (x2 : Int) (x3 : Int) : Option (So Sm) :=
  (f_X8_journeyFault σ 1 x1 x2 x3).bind fun v1 => (f_X12_refuse σ v1).bind fun v2 => if v2.2.1 = 0 then (f_X1_searchRounds N v2.1 371 1 x1 x3).bind fun s3 => if 0 ≤ x2 ∧ x2 < 10 then (f_X12_journeyFound s3 (s3 372 x2.toNat)).bind fun v6 => if v6.2.1 = 0 then some (v6.1, 0, v6.2.2) else some (xw v6) else none else some (xw v2)
theorem ct_X12_earliestArrivalByRounds {l : Launch} {cy : Nat → ClassId} {ad : Nat → Nat} {E : Nat → Nat → Nat} {G : va_G} {Z : vZ} {sa : Nat → Nat} (zk : Zk Z E) (zy : Zy Z E sa) (hst : l.stackTraces = false) (N : Nat) (σ : Sm) (x1 : Int) (x2 : Int) (x3 : Int) (h1 : rng x1) (h2 : rng x2) (h3 : rng x3) (hw : wfc σ) (o : So Sm) (h : f_X12_earliestArrivalByRounds N σ x1 x2 x3 = some o) : CxI Z l yX12_earliestArrivalByRounds cX12_earliestArrivalByRounds 4 (some .int) rm_X12_earliestArrivalByRounds (wlc cy ad E) wfc G (tyc cy) [.ref (ad 0), vi x1, vi x2, vi x3] σ o := by
  refine cxI_of zk.1 zy.1 hst (by decide) (Nat.le_of_ble_eq_true rfl) hw o h (fun X A Q hZ hX C => ?_)
  replace hst : X.2.1.stackTraces = false := by rw [hX]; exact hst
  replace C : Cx X (Yc cy ad E G A 4 Q) cX12_earliestArrivalByRounds RX12 (some .int) rm_X12_earliestArrivalByRounds (tyc cy) := C
  replace hZ : Zx Z X (Yc cy ad E G A 4 Q) := hZ
  show T X (Yc cy ad E G A 4 Q) (fun w => EndXI X (Yc cy ad E G A 4 Q) cX12_earliestArrivalByRounds rm_X12_earliestArrivalByRounds .int w ∧ EndX X (Yc cy ad E G A 4 Q) cX12_earliestArrivalByRounds RX12 rm_X12_earliestArrivalByRounds w) 0 0 0 [(0, .ref (ad 0)), (1, vi x1), (2, vi x2), (3, vi x3)] [] σ (f_X12_earliestArrivalByRounds N σ x1 x2 x3)
  unfold f_X12_earliestArrivalByRounds
  refine T_aload_n (pc := 0) C dX12_earliestArrivalByRounds_0 rfl 0 rfl ?_
  refine Tc_getr (pc := 1) C 0 12 0 13 (rfl : kd 0 = 12) (by decide) (fun _ => rfl) rfl inX12 (by decide) (v := .ref (ad 1)) rfl kx_84 dX12_earliestArrivalByRounds_1 ?_
  refine T_iload_n (pc := 4) C dX12_earliestArrivalByRounds_4 rfl 1 rfl ?_
  refine T_iload_n (pc := 5) C dX12_earliestArrivalByRounds_5 rfl 2 rfl ?_
  refine T_iload_n (pc := 6) C dX12_earliestArrivalByRounds_6 rfl 3 rfl ?_
  refine T_czVep (pc := 7) zk.1 hZ C [vi x1, vi x2, vi x3] [] (fun o h9 hw => ct_X8_journeyFault zk σ 1 x1 x2 x3 (rfl : kd 1 = 8) h1 h2 h3 hw o h9) kx_193 cm_X8_journeyFault (rcc (rfl : kd 1 = 8) (by decide) (fun _ => rfl) rfl) rfl rfl (Nat.le_of_ble_eq_true rfl) (by decide) (a' := 0) (b' := 0) ⟨rfl, rfl⟩ dX12_earliestArrivalByRounds_7 (fun v1 hv1 => ?_)
  refine T_cxSv (pc := 10) zk.1 hZ C [ve E 0 v1] [] (fun o h9 hw => ct_X12_refuse zk zy hst σ v1 hv1 hw o h9) kx_86 cm_X12_refuse rfl rfl (Nat.le_of_ble_eq_true rfl) (by decide) (a' := 1) (b' := 6) ⟨rfl, rfl⟩ dX12_earliestArrivalByRounds_10 (g := xw) (fun o h9 h8 => (h9.2 h8).1) (fun v2 => ?_)
  refine T_aload_n (pc := 13) C dX12_earliestArrivalByRounds_13 rfl 0 rfl ?_
  refine Tc_getr (pc := 14) C 0 12 6 13 (rfl : kd 0 = 12) (by decide) (fun _ => rfl) rfl inX12 (by decide) (v := .ref (ad 371)) rfl kx_200 dX12_earliestArrivalByRounds_14 ?_
  refine T_aload_n (pc := 17) C dX12_earliestArrivalByRounds_17 rfl 0 rfl ?_
  refine Tc_getr (pc := 18) C 0 12 0 13 (rfl : kd 0 = 12) (by decide) (fun _ => rfl) rfl inX12 (by decide) (v := .ref (ad 1)) rfl kx_84 dX12_earliestArrivalByRounds_18 ?_
  refine T_iload_n (pc := 21) C dX12_earliestArrivalByRounds_21 rfl 1 rfl ?_
  refine T_iload_n (pc := 22) C dX12_earliestArrivalByRounds_22 rfl 3 rfl ?_
  refine T_czVv (pc := 23) zk.1 hZ C [.ref (ad 1), vi x1, vi x3] [] (fun o h9 hw => ct_X1_searchRounds zk N v2.1 371 1 x1 x3 (rfl : kd 371 = 1) (rfl : kd 1 = 8) h1 h3 hw o h9) kx_201 cm_X1_searchRounds (rcc (rfl : kd 371 = 1) (by decide) (fun _ => rfl) rfl) rfl rfl (Nat.le_of_ble_eq_true rfl) (by decide) (a' := 1) (b' := 6) ⟨rfl, rfl⟩ dX12_earliestArrivalByRounds_23 (fun s3 => ?_)
  refine T_aload_n (pc := 26) C dX12_earliestArrivalByRounds_26 rfl 0 rfl ?_
  refine Tc_getr (pc := 27) C 0 12 6 13 (rfl : kd 0 = 12) (by decide) (fun _ => rfl) rfl inX12 (by decide) (v := .ref (ad 371)) rfl kx_200 dX12_earliestArrivalByRounds_27 ?_
  refine Tc_getr (pc := 30) C 371 1 0 4 (rfl : kd 371 = 1) (by decide) (fun _ => rfl) rfl inX1 (by decide) (v := .ref (ad 372)) rfl kx_196 dX12_earliestArrivalByRounds_30 ?_
  refine T_iload_n (pc := 33) C dX12_earliestArrivalByRounds_33 rfl 2 rfl ?_
  refine T_guard (fun g4 => ?_)
  refine Tc_iald (pc := 34) C 372 20 10 x2.toNat (kd_1 (rfl : kd 371 = 1)).1 ⟨by decide, by decide⟩ rfl g4 rfl dX12_earliestArrivalByRounds_34 (fun z5 => ?_)
  refine T_cxSi (pc := 35) zk.1 hZ C [vi (s3 372 x2.toNat)] [] (fun o h9 hw => ct_X12_journeyFound zk zy hst s3 (s3 372 x2.toNat) z5 hw o h9) kx_197 cm_X12_journeyFound rfl rfl (Nat.le_of_ble_eq_true rfl) (by decide) (a' := 2) (b' := 12) ⟨rfl, rfl⟩ dX12_earliestArrivalByRounds_35 (g := xw) (fun o h9 h8 => (h9.2 h8).1) (fun v6 hv6 => ?_)
  exact T_xiret (pc := 38) (v6.1, 0, v6.2.2) (v6.1, 0, v6.2.2) rfl (fun h9 => h9.1) hv6.1 (nar_I _) (by decide) dX12_earliestArrivalByRounds_38

abbrev rm_X12_fewestBoardings : Room := ⟨7, 2, 12, 102⟩
theorem cm_X12_fewestBoardings : cmV yX12_fewestBoardings cX12_fewestBoardings 3 (some .int) 2 := ⟨kx_30, kx_82, ⟨by decide +kernel, by decide +kernel, by decide +kernel⟩, kx_208, kx_209⟩
def f_X12_fewestBoardings (N : Nat) (σ : Sm) (x1 : Int) (x2 : Int) : Option (So Sm) :=
  (f_X8_stopPairFault σ 1 x1 x2).bind fun v1 => (f_X12_refuse σ v1).bind fun v2 => if v2.2.1 = 0 then (f_X2_searchRounds N v2.1 376 1 x1).bind fun s3 => if 0 ≤ x2 ∧ x2 < 10 then (f_X12_journeyFound s3 (s3 377 x2.toNat)).bind fun v6 => if v6.2.1 = 0 then some (v6.1, 0, v6.2.2) else some (xw v6) else none else some (xw v2)
theorem ct_X12_fewestBoardings {l : Launch} {cy : Nat → ClassId} {ad : Nat → Nat} {E : Nat → Nat → Nat} {G : va_G} {Z : vZ} {sa : Nat → Nat} (zk : Zk Z E) (zy : Zy Z E sa) (hst : l.stackTraces = false) (N : Nat) (σ : Sm) (x1 : Int) (x2 : Int) (h1 : rng x1) (h2 : rng x2) (hw : wfc σ) (o : So Sm) (h : f_X12_fewestBoardings N σ x1 x2 = some o) : CxI Z l yX12_fewestBoardings cX12_fewestBoardings 3 (some .int) rm_X12_fewestBoardings (wlc cy ad E) wfc G (tyc cy) [.ref (ad 0), vi x1, vi x2] σ o := by
  refine cxI_of zk.1 zy.1 hst (by decide) (Nat.le_of_ble_eq_true rfl) hw o h (fun X A Q hZ hX C => ?_)
  replace hst : X.2.1.stackTraces = false := by rw [hX]; exact hst
  replace C : Cx X (Yc cy ad E G A 3 Q) cX12_fewestBoardings RX12 (some .int) rm_X12_fewestBoardings (tyc cy) := C
  replace hZ : Zx Z X (Yc cy ad E G A 3 Q) := hZ
  show T X (Yc cy ad E G A 3 Q) (fun w => EndXI X (Yc cy ad E G A 3 Q) cX12_fewestBoardings rm_X12_fewestBoardings .int w ∧ EndX X (Yc cy ad E G A 3 Q) cX12_fewestBoardings RX12 rm_X12_fewestBoardings w) 0 0 0 [(0, .ref (ad 0)), (1, vi x1), (2, vi x2)] [] σ (f_X12_fewestBoardings N σ x1 x2)
  unfold f_X12_fewestBoardings
  refine T_aload_n (pc := 0) C dX12_fewestBoardings_0 rfl 0 rfl ?_
  refine Tc_getr (pc := 1) C 0 12 0 13 (rfl : kd 0 = 12) (by decide) (fun _ => rfl) rfl inX12 (by decide) (v := .ref (ad 1)) rfl kx_84 dX12_fewestBoardings_1 ?_
  refine T_iload_n (pc := 4) C dX12_fewestBoardings_4 rfl 1 rfl ?_
  refine T_iload_n (pc := 5) C dX12_fewestBoardings_5 rfl 2 rfl ?_
  refine T_czVep (pc := 6) zk.1 hZ C [vi x1, vi x2] [] (fun o h9 hw => ct_X8_stopPairFault zk σ 1 x1 x2 (rfl : kd 1 = 8) h1 h2 hw o h9) kx_204 cm_X8_stopPairFault (rcc (rfl : kd 1 = 8) (by decide) (fun _ => rfl) rfl) rfl rfl (Nat.le_of_ble_eq_true rfl) (by decide) (a' := 0) (b' := 0) ⟨rfl, rfl⟩ dX12_fewestBoardings_6 (fun v1 hv1 => ?_)
  refine T_cxSv (pc := 9) zk.1 hZ C [ve E 0 v1] [] (fun o h9 hw => ct_X12_refuse zk zy hst σ v1 hv1 hw o h9) kx_86 cm_X12_refuse rfl rfl (Nat.le_of_ble_eq_true rfl) (by decide) (a' := 1) (b' := 6) ⟨rfl, rfl⟩ dX12_fewestBoardings_9 (g := xw) (fun o h9 h8 => (h9.2 h8).1) (fun v2 => ?_)
  refine T_aload_n (pc := 12) C dX12_fewestBoardings_12 rfl 0 rfl ?_
  refine Tc_getr (pc := 13) C 0 12 7 13 (rfl : kd 0 = 12) (by decide) (fun _ => rfl) rfl inX12 (by decide) (v := .ref (ad 376)) rfl kx_205 dX12_fewestBoardings_13 ?_
  refine T_aload_n (pc := 16) C dX12_fewestBoardings_16 rfl 0 rfl ?_
  refine Tc_getr (pc := 17) C 0 12 0 13 (rfl : kd 0 = 12) (by decide) (fun _ => rfl) rfl inX12 (by decide) (v := .ref (ad 1)) rfl kx_84 dX12_fewestBoardings_17 ?_
  refine T_iload_n (pc := 20) C dX12_fewestBoardings_20 rfl 1 rfl ?_
  refine T_czVv (pc := 21) zk.1 hZ C [.ref (ad 1), vi x1] [] (fun o h9 hw => ct_X2_searchRounds zk N v2.1 376 1 x1 (rfl : kd 376 = 2) (rfl : kd 1 = 8) h1 hw o h9) kx_206 cm_X2_searchRounds (rcc (rfl : kd 376 = 2) (by decide) (fun _ => rfl) rfl) rfl rfl (Nat.le_of_ble_eq_true rfl) (by decide) (a' := 1) (b' := 6) ⟨rfl, rfl⟩ dX12_fewestBoardings_21 (fun s3 => ?_)
  refine T_aload_n (pc := 24) C dX12_fewestBoardings_24 rfl 0 rfl ?_
  refine Tc_getr (pc := 25) C 0 12 7 13 (rfl : kd 0 = 12) (by decide) (fun _ => rfl) rfl inX12 (by decide) (v := .ref (ad 376)) rfl kx_205 dX12_fewestBoardings_25 ?_
  refine Tc_getr (pc := 28) C 376 2 0 2 (rfl : kd 376 = 2) (by decide) (fun _ => rfl) rfl inX2 (by decide) (v := .ref (ad 377)) rfl kx_207 dX12_fewestBoardings_28 ?_
  refine T_iload_n (pc := 31) C dX12_fewestBoardings_31 rfl 2 rfl ?_
  refine T_guard (fun g4 => ?_)
  refine Tc_iald (pc := 32) C 377 20 10 x2.toNat (kd_2 (rfl : kd 376 = 2)).1 ⟨by decide, by decide⟩ rfl g4 rfl dX12_fewestBoardings_32 (fun z5 => ?_)
  refine T_cxSi (pc := 33) zk.1 hZ C [vi (s3 377 x2.toNat)] [] (fun o h9 hw => ct_X12_journeyFound zk zy hst s3 (s3 377 x2.toNat) z5 hw o h9) kx_197 cm_X12_journeyFound rfl rfl (Nat.le_of_ble_eq_true rfl) (by decide) (a' := 2) (b' := 12) ⟨rfl, rfl⟩ dX12_fewestBoardings_33 (g := xw) (fun o h9 h8 => (h9.2 h8).1) (fun v6 hv6 => ?_)
  exact T_xiret (pc := 36) (v6.1, 0, v6.2.2) (v6.1, 0, v6.2.2) rfl (fun h9 => h9.1) hv6.1 (nar_I _) (by decide) dX12_fewestBoardings_36

abbrev rm_X12_fewestBoardingsByTable : Room := ⟨7, 2, 12, 102⟩
theorem cm_X12_fewestBoardingsByTable : cmV yX12_fewestBoardingsByTable cX12_fewestBoardingsByTable 3 (some .int) 2 := ⟨kx_31, kx_82, ⟨by decide +kernel, by decide +kernel, by decide +kernel⟩, kx_212, kx_213⟩
def f_X12_fewestBoardingsByTable (N : Nat) (σ : Sm) (x1 : Int) (x2 : Int) : Option (So Sm) :=
  (f_X8_stopPairFault σ 1 x1 x2).bind fun v1 => (f_X12_refuse σ v1).bind fun v2 => if v2.2.1 = 0 then (f_X2_fillTable N v2.1 376 1).bind fun s3 => (f_X2_tableEntry s3 376 x1 x2).bind fun v4 => (f_X12_journeyFound s3 v4).bind fun v5 => if v5.2.1 = 0 then some (v5.1, 0, v5.2.2) else some (xw v5) else some (xw v2)
theorem ct_X12_fewestBoardingsByTable {l : Launch} {cy : Nat → ClassId} {ad : Nat → Nat} {E : Nat → Nat → Nat} {G : va_G} {Z : vZ} {sa : Nat → Nat} (zk : Zk Z E) (zy : Zy Z E sa) (hst : l.stackTraces = false) (N : Nat) (σ : Sm) (x1 : Int) (x2 : Int) (h1 : rng x1) (h2 : rng x2) (hw : wfc σ) (o : So Sm) (h : f_X12_fewestBoardingsByTable N σ x1 x2 = some o) : CxI Z l yX12_fewestBoardingsByTable cX12_fewestBoardingsByTable 3 (some .int) rm_X12_fewestBoardingsByTable (wlc cy ad E) wfc G (tyc cy) [.ref (ad 0), vi x1, vi x2] σ o := by
  refine cxI_of zk.1 zy.1 hst (by decide) (Nat.le_of_ble_eq_true rfl) hw o h (fun X A Q hZ hX C => ?_)
  replace hst : X.2.1.stackTraces = false := by rw [hX]; exact hst
  replace C : Cx X (Yc cy ad E G A 3 Q) cX12_fewestBoardingsByTable RX12 (some .int) rm_X12_fewestBoardingsByTable (tyc cy) := C
  replace hZ : Zx Z X (Yc cy ad E G A 3 Q) := hZ
  show T X (Yc cy ad E G A 3 Q) (fun w => EndXI X (Yc cy ad E G A 3 Q) cX12_fewestBoardingsByTable rm_X12_fewestBoardingsByTable .int w ∧ EndX X (Yc cy ad E G A 3 Q) cX12_fewestBoardingsByTable RX12 rm_X12_fewestBoardingsByTable w) 0 0 0 [(0, .ref (ad 0)), (1, vi x1), (2, vi x2)] [] σ (f_X12_fewestBoardingsByTable N σ x1 x2)
  unfold f_X12_fewestBoardingsByTable
  refine T_aload_n (pc := 0) C dX12_fewestBoardingsByTable_0 rfl 0 rfl ?_
  refine Tc_getr (pc := 1) C 0 12 0 13 (rfl : kd 0 = 12) (by decide) (fun _ => rfl) rfl inX12 (by decide) (v := .ref (ad 1)) rfl kx_84 dX12_fewestBoardingsByTable_1 ?_
  refine T_iload_n (pc := 4) C dX12_fewestBoardingsByTable_4 rfl 1 rfl ?_
  refine T_iload_n (pc := 5) C dX12_fewestBoardingsByTable_5 rfl 2 rfl ?_
  refine T_czVep (pc := 6) zk.1 hZ C [vi x1, vi x2] [] (fun o h9 hw => ct_X8_stopPairFault zk σ 1 x1 x2 (rfl : kd 1 = 8) h1 h2 hw o h9) kx_204 cm_X8_stopPairFault (rcc (rfl : kd 1 = 8) (by decide) (fun _ => rfl) rfl) rfl rfl (Nat.le_of_ble_eq_true rfl) (by decide) (a' := 0) (b' := 0) ⟨rfl, rfl⟩ dX12_fewestBoardingsByTable_6 (fun v1 hv1 => ?_)
  refine T_cxSv (pc := 9) zk.1 hZ C [ve E 0 v1] [] (fun o h9 hw => ct_X12_refuse zk zy hst σ v1 hv1 hw o h9) kx_86 cm_X12_refuse rfl rfl (Nat.le_of_ble_eq_true rfl) (by decide) (a' := 1) (b' := 6) ⟨rfl, rfl⟩ dX12_fewestBoardingsByTable_9 (g := xw) (fun o h9 h8 => (h9.2 h8).1) (fun v2 => ?_)
  refine T_aload_n (pc := 12) C dX12_fewestBoardingsByTable_12 rfl 0 rfl ?_
  refine Tc_getr (pc := 13) C 0 12 7 13 (rfl : kd 0 = 12) (by decide) (fun _ => rfl) rfl inX12 (by decide) (v := .ref (ad 376)) rfl kx_205 dX12_fewestBoardingsByTable_13 ?_
  refine T_aload_n (pc := 16) C dX12_fewestBoardingsByTable_16 rfl 0 rfl ?_
  refine Tc_getr (pc := 17) C 0 12 0 13 (rfl : kd 0 = 12) (by decide) (fun _ => rfl) rfl inX12 (by decide) (v := .ref (ad 1)) rfl kx_84 dX12_fewestBoardingsByTable_17 ?_
  refine T_czVv (pc := 20) zk.1 hZ C [.ref (ad 1)] [] (fun o h9 hw => ct_X2_fillTable zk N v2.1 376 1 (rfl : kd 376 = 2) (rfl : kd 1 = 8) hw o h9) kx_210 cm_X2_fillTable (rcc (rfl : kd 376 = 2) (by decide) (fun _ => rfl) rfl) rfl rfl (Nat.le_of_ble_eq_true rfl) (by decide) (a' := 1) (b' := 6) ⟨rfl, rfl⟩ dX12_fewestBoardingsByTable_20 (fun s3 => ?_)
  refine T_aload_n (pc := 23) C dX12_fewestBoardingsByTable_23 rfl 0 rfl ?_
  refine Tc_getr (pc := 24) C 0 12 7 13 (rfl : kd 0 = 12) (by decide) (fun _ => rfl) rfl inX12 (by decide) (v := .ref (ad 376)) rfl kx_205 dX12_fewestBoardingsByTable_24 ?_
  refine T_iload_n (pc := 27) C dX12_fewestBoardingsByTable_27 rfl 1 rfl ?_
  refine T_iload_n (pc := 28) C dX12_fewestBoardingsByTable_28 rfl 2 rfl ?_
  refine T_czVip (pc := 29) zk.1 hZ C [vi x1, vi x2] [] (fun o h9 hw => ct_X2_tableEntry zk s3 376 x1 x2 (rfl : kd 376 = 2) h1 h2 hw o h9) kx_211 cm_X2_tableEntry (rcc (rfl : kd 376 = 2) (by decide) (fun _ => rfl) rfl) rfl rfl (Nat.le_of_ble_eq_true rfl) (by decide) (a' := 1) (b' := 6) ⟨rfl, rfl⟩ dX12_fewestBoardingsByTable_29 (fun v4 hv4 => ?_)
  refine T_cxSi (pc := 32) zk.1 hZ C [vi v4] [] (fun o h9 hw => ct_X12_journeyFound zk zy hst s3 v4 hv4.1 hw o h9) kx_197 cm_X12_journeyFound rfl rfl (Nat.le_of_ble_eq_true rfl) (by decide) (a' := 2) (b' := 12) ⟨rfl, rfl⟩ dX12_fewestBoardingsByTable_32 (g := xw) (fun o h9 h8 => (h9.2 h8).1) (fun v5 hv5 => ?_)
  exact T_xiret (pc := 35) (v5.1, 0, v5.2.2) (v5.1, 0, v5.2.2) rfl (fun h9 => h9.1) hv5.1 (nar_I _) (by decide) dX12_fewestBoardingsByTable_35

abbrev rm_X12_flow : Room := ⟨7, 1, 6, 102⟩
theorem cm_X12_flow : cmV yX12_flow cX12_flow 3 (some .int) 2 := ⟨kx_32, kx_82, ⟨by decide +kernel, by decide +kernel, by decide +kernel⟩, kx_217, kx_218⟩
def f_X12_flow (N : Nat) (σ : Sm) (x1 : Int) (x2 : Int) : Option (So Sm) :=
  (f_X8_flowFault σ 1 x1 x2).bind fun v1 => (f_X12_refuse σ v1).bind fun v2 => if v2.2.1 = 0 then (f_X5_greatest N v2.1 379 1 x1 x2).bind fun v3 => some (v3.1, 0, v3.2) else some (xw v2)
theorem ct_X12_flow {l : Launch} {cy : Nat → ClassId} {ad : Nat → Nat} {E : Nat → Nat → Nat} {G : va_G} {Z : vZ} {sa : Nat → Nat} (zk : Zk Z E) (zy : Zy Z E sa) (hst : l.stackTraces = false) (N : Nat) (σ : Sm) (x1 : Int) (x2 : Int) (h1 : rng x1) (h2 : rng x2) (hw : wfc σ) (o : So Sm) (h : f_X12_flow N σ x1 x2 = some o) : CxI Z l yX12_flow cX12_flow 3 (some .int) rm_X12_flow (wlc cy ad E) wfc G (tyc cy) [.ref (ad 0), vi x1, vi x2] σ o := by
  refine cxI_of zk.1 zy.1 hst (by decide) (Nat.le_of_ble_eq_true rfl) hw o h (fun X A Q hZ hX C => ?_)
  replace hst : X.2.1.stackTraces = false := by rw [hX]; exact hst
  replace C : Cx X (Yc cy ad E G A 3 Q) cX12_flow RX12 (some .int) rm_X12_flow (tyc cy) := C
  replace hZ : Zx Z X (Yc cy ad E G A 3 Q) := hZ
  show T X (Yc cy ad E G A 3 Q) (fun w => EndXI X (Yc cy ad E G A 3 Q) cX12_flow rm_X12_flow .int w ∧ EndX X (Yc cy ad E G A 3 Q) cX12_flow RX12 rm_X12_flow w) 0 0 0 [(0, .ref (ad 0)), (1, vi x1), (2, vi x2)] [] σ (f_X12_flow N σ x1 x2)
  unfold f_X12_flow
  refine T_aload_n (pc := 0) C dX12_flow_0 rfl 0 rfl ?_
  refine Tc_getr (pc := 1) C 0 12 0 13 (rfl : kd 0 = 12) (by decide) (fun _ => rfl) rfl inX12 (by decide) (v := .ref (ad 1)) rfl kx_84 dX12_flow_1 ?_
  refine T_iload_n (pc := 4) C dX12_flow_4 rfl 1 rfl ?_
  refine T_iload_n (pc := 5) C dX12_flow_5 rfl 2 rfl ?_
  refine T_czVep (pc := 6) zk.1 hZ C [vi x1, vi x2] [] (fun o h9 hw => ct_X8_flowFault zk σ 1 x1 x2 (rfl : kd 1 = 8) h1 h2 hw o h9) kx_214 cm_X8_flowFault (rcc (rfl : kd 1 = 8) (by decide) (fun _ => rfl) rfl) rfl rfl (Nat.le_of_ble_eq_true rfl) (by decide) (a' := 0) (b' := 0) ⟨rfl, rfl⟩ dX12_flow_6 (fun v1 hv1 => ?_)
  refine T_cxSv (pc := 9) zk.1 hZ C [ve E 0 v1] [] (fun o h9 hw => ct_X12_refuse zk zy hst σ v1 hv1 hw o h9) kx_86 cm_X12_refuse rfl rfl (Nat.le_of_ble_eq_true rfl) (by decide) (a' := 1) (b' := 6) ⟨rfl, rfl⟩ dX12_flow_9 (g := xw) (fun o h9 h8 => (h9.2 h8).1) (fun v2 => ?_)
  refine T_aload_n (pc := 12) C dX12_flow_12 rfl 0 rfl ?_
  refine Tc_getr (pc := 13) C 0 12 8 13 (rfl : kd 0 = 12) (by decide) (fun _ => rfl) rfl inX12 (by decide) (v := .ref (ad 379)) rfl kx_215 dX12_flow_13 ?_
  refine T_aload_n (pc := 16) C dX12_flow_16 rfl 0 rfl ?_
  refine Tc_getr (pc := 17) C 0 12 0 13 (rfl : kd 0 = 12) (by decide) (fun _ => rfl) rfl inX12 (by decide) (v := .ref (ad 1)) rfl kx_84 dX12_flow_17 ?_
  refine T_iload_n (pc := 20) C dX12_flow_20 rfl 1 rfl ?_
  refine T_iload_n (pc := 21) C dX12_flow_21 rfl 2 rfl ?_
  refine T_czVi (pc := 22) zk.1 hZ C [.ref (ad 1), vi x1, vi x2] [] (fun o h9 hw => ct_X5_greatest zk N v2.1 379 1 x1 x2 (rfl : kd 379 = 5) (rfl : kd 1 = 8) h1 h2 hw o h9) kx_216 cm_X5_greatest (rcc (rfl : kd 379 = 5) (by decide) (fun _ => rfl) rfl) rfl rfl (Nat.le_of_ble_eq_true rfl) (by decide) (a' := 1) (b' := 6) ⟨rfl, rfl⟩ dX12_flow_22 (fun v3 hv3 => ?_)
  exact T_xiret (pc := 25) (v3.1, 0, v3.2) (v3.1, 0, v3.2) rfl (fun h9 => h9.1) hv3.1 (nar_I _) (by decide) dX12_flow_25

abbrev rm_X12_smallestCut : Room := ⟨7, 1, 6, 102⟩
theorem cm_X12_smallestCut : cmV yX12_smallestCut cX12_smallestCut 3 (some .int) 2 := ⟨kx_33, kx_82, ⟨by decide +kernel, by decide +kernel, by decide +kernel⟩, kx_220, kx_221⟩
def f_X12_smallestCut (N : Nat) (σ : Sm) (x1 : Int) (x2 : Int) : Option (So Sm) :=
  (f_X8_flowFault σ 1 x1 x2).bind fun v1 => (f_X12_refuse σ v1).bind fun v2 => if v2.2.1 = 0 then (f_X5_leastCut N v2.1 379 1 x1 x2).bind fun v3 => some (v3.1, 0, v3.2) else some (xw v2)
theorem ct_X12_smallestCut {l : Launch} {cy : Nat → ClassId} {ad : Nat → Nat} {E : Nat → Nat → Nat} {G : va_G} {Z : vZ} {sa : Nat → Nat} (zk : Zk Z E) (zy : Zy Z E sa) (hst : l.stackTraces = false) (N : Nat) (σ : Sm) (x1 : Int) (x2 : Int) (h1 : rng x1) (h2 : rng x2) (hw : wfc σ) (o : So Sm) (h : f_X12_smallestCut N σ x1 x2 = some o) : CxI Z l yX12_smallestCut cX12_smallestCut 3 (some .int) rm_X12_smallestCut (wlc cy ad E) wfc G (tyc cy) [.ref (ad 0), vi x1, vi x2] σ o := by
  refine cxI_of zk.1 zy.1 hst (by decide) (Nat.le_of_ble_eq_true rfl) hw o h (fun X A Q hZ hX C => ?_)
  replace hst : X.2.1.stackTraces = false := by rw [hX]; exact hst
  replace C : Cx X (Yc cy ad E G A 3 Q) cX12_smallestCut RX12 (some .int) rm_X12_smallestCut (tyc cy) := C
  replace hZ : Zx Z X (Yc cy ad E G A 3 Q) := hZ
  show T X (Yc cy ad E G A 3 Q) (fun w => EndXI X (Yc cy ad E G A 3 Q) cX12_smallestCut rm_X12_smallestCut .int w ∧ EndX X (Yc cy ad E G A 3 Q) cX12_smallestCut RX12 rm_X12_smallestCut w) 0 0 0 [(0, .ref (ad 0)), (1, vi x1), (2, vi x2)] [] σ (f_X12_smallestCut N σ x1 x2)
  unfold f_X12_smallestCut
  refine T_aload_n (pc := 0) C dX12_smallestCut_0 rfl 0 rfl ?_
  refine Tc_getr (pc := 1) C 0 12 0 13 (rfl : kd 0 = 12) (by decide) (fun _ => rfl) rfl inX12 (by decide) (v := .ref (ad 1)) rfl kx_84 dX12_smallestCut_1 ?_
  refine T_iload_n (pc := 4) C dX12_smallestCut_4 rfl 1 rfl ?_
  refine T_iload_n (pc := 5) C dX12_smallestCut_5 rfl 2 rfl ?_
  refine T_czVep (pc := 6) zk.1 hZ C [vi x1, vi x2] [] (fun o h9 hw => ct_X8_flowFault zk σ 1 x1 x2 (rfl : kd 1 = 8) h1 h2 hw o h9) kx_214 cm_X8_flowFault (rcc (rfl : kd 1 = 8) (by decide) (fun _ => rfl) rfl) rfl rfl (Nat.le_of_ble_eq_true rfl) (by decide) (a' := 0) (b' := 0) ⟨rfl, rfl⟩ dX12_smallestCut_6 (fun v1 hv1 => ?_)
  refine T_cxSv (pc := 9) zk.1 hZ C [ve E 0 v1] [] (fun o h9 hw => ct_X12_refuse zk zy hst σ v1 hv1 hw o h9) kx_86 cm_X12_refuse rfl rfl (Nat.le_of_ble_eq_true rfl) (by decide) (a' := 1) (b' := 6) ⟨rfl, rfl⟩ dX12_smallestCut_9 (g := xw) (fun o h9 h8 => (h9.2 h8).1) (fun v2 => ?_)
  refine T_aload_n (pc := 12) C dX12_smallestCut_12 rfl 0 rfl ?_
  refine Tc_getr (pc := 13) C 0 12 8 13 (rfl : kd 0 = 12) (by decide) (fun _ => rfl) rfl inX12 (by decide) (v := .ref (ad 379)) rfl kx_215 dX12_smallestCut_13 ?_
  refine T_aload_n (pc := 16) C dX12_smallestCut_16 rfl 0 rfl ?_
  refine Tc_getr (pc := 17) C 0 12 0 13 (rfl : kd 0 = 12) (by decide) (fun _ => rfl) rfl inX12 (by decide) (v := .ref (ad 1)) rfl kx_84 dX12_smallestCut_17 ?_
  refine T_iload_n (pc := 20) C dX12_smallestCut_20 rfl 1 rfl ?_
  refine T_iload_n (pc := 21) C dX12_smallestCut_21 rfl 2 rfl ?_
  refine T_czVi (pc := 22) zk.1 hZ C [.ref (ad 1), vi x1, vi x2] [] (fun o h9 hw => ct_X5_leastCut zk N v2.1 379 1 x1 x2 (rfl : kd 379 = 5) (rfl : kd 1 = 8) h1 h2 hw o h9) kx_219 cm_X5_leastCut (rcc (rfl : kd 379 = 5) (by decide) (fun _ => rfl) rfl) rfl rfl (Nat.le_of_ble_eq_true rfl) (by decide) (a' := 1) (b' := 6) ⟨rfl, rfl⟩ dX12_smallestCut_22 (fun v3 hv3 => ?_)
  exact T_xiret (pc := 25) (v3.1, 0, v3.2) (v3.1, 0, v3.2) rfl (fun h9 => h9.1) hv3.1 (nar_I _) (by decide) dX12_smallestCut_25

abbrev rm_X12_freeSeats : Room := ⟨7, 1, 6, 102⟩
theorem cm_X12_freeSeats : cmV yX12_freeSeats cX12_freeSeats 5 (some .int) 4 := ⟨kx_34, kx_82, ⟨by decide +kernel, by decide +kernel, by decide +kernel⟩, kx_224, kx_225⟩
def f_X12_freeSeats (N : Nat) (σ : Sm) (x1 : Int) (x2 : Int) (x3 : Int) (x4 : Int) : Option (So Sm) :=
  (f_X8_rideFault σ 1 x1 x2 x3 x4).bind fun v1 => (f_X12_refuse σ v1).bind fun v2 => if v2.2.1 = 0 then (f_X8_seatsLeft N v2.1 1 x1 x2 x3 x4).bind fun v3 => some (v2.1, 0, v3) else some (xw v2)
theorem ct_X12_freeSeats {l : Launch} {cy : Nat → ClassId} {ad : Nat → Nat} {E : Nat → Nat → Nat} {G : va_G} {Z : vZ} {sa : Nat → Nat} (zk : Zk Z E) (zy : Zy Z E sa) (hst : l.stackTraces = false) (N : Nat) (σ : Sm) (x1 : Int) (x2 : Int) (x3 : Int) (x4 : Int) (h1 : rng x1) (h2 : rng x2) (h3 : rng x3) (h4 : rng x4) (hw : wfc σ) (o : So Sm) (h : f_X12_freeSeats N σ x1 x2 x3 x4 = some o) : CxI Z l yX12_freeSeats cX12_freeSeats 5 (some .int) rm_X12_freeSeats (wlc cy ad E) wfc G (tyc cy) [.ref (ad 0), vi x1, vi x2, vi x3, vi x4] σ o := by
  refine cxI_of zk.1 zy.1 hst (by decide) (Nat.le_of_ble_eq_true rfl) hw o h (fun X A Q hZ hX C => ?_)
  replace hst : X.2.1.stackTraces = false := by rw [hX]; exact hst
  replace C : Cx X (Yc cy ad E G A 5 Q) cX12_freeSeats RX12 (some .int) rm_X12_freeSeats (tyc cy) := C
  replace hZ : Zx Z X (Yc cy ad E G A 5 Q) := hZ
  show T X (Yc cy ad E G A 5 Q) (fun w => EndXI X (Yc cy ad E G A 5 Q) cX12_freeSeats rm_X12_freeSeats .int w ∧ EndX X (Yc cy ad E G A 5 Q) cX12_freeSeats RX12 rm_X12_freeSeats w) 0 0 0 [(0, .ref (ad 0)), (1, vi x1), (2, vi x2), (3, vi x3), (4, vi x4)] [] σ (f_X12_freeSeats N σ x1 x2 x3 x4)
  unfold f_X12_freeSeats
  refine T_aload_n (pc := 0) C dX12_freeSeats_0 rfl 0 rfl ?_
  refine Tc_getr (pc := 1) C 0 12 0 13 (rfl : kd 0 = 12) (by decide) (fun _ => rfl) rfl inX12 (by decide) (v := .ref (ad 1)) rfl kx_84 dX12_freeSeats_1 ?_
  refine T_iload_n (pc := 4) C dX12_freeSeats_4 rfl 1 rfl ?_
  refine T_iload_n (pc := 5) C dX12_freeSeats_5 rfl 2 rfl ?_
  refine T_iload_n (pc := 6) C dX12_freeSeats_6 rfl 3 rfl ?_
  refine T_iload (pc := 7) C dX12_freeSeats_7 4 rfl ?_
  refine T_czVep (pc := 9) zk.1 hZ C [vi x1, vi x2, vi x3, vi x4] [] (fun o h9 hw => ct_X8_rideFault zk σ 1 x1 x2 x3 x4 (rfl : kd 1 = 8) h1 h2 h3 h4 hw o h9) kx_222 cm_X8_rideFault (rcc (rfl : kd 1 = 8) (by decide) (fun _ => rfl) rfl) rfl rfl (Nat.le_of_ble_eq_true rfl) (by decide) (a' := 0) (b' := 0) ⟨rfl, rfl⟩ dX12_freeSeats_9 (fun v1 hv1 => ?_)
  refine T_cxSv (pc := 12) zk.1 hZ C [ve E 0 v1] [] (fun o h9 hw => ct_X12_refuse zk zy hst σ v1 hv1 hw o h9) kx_86 cm_X12_refuse rfl rfl (Nat.le_of_ble_eq_true rfl) (by decide) (a' := 1) (b' := 6) ⟨rfl, rfl⟩ dX12_freeSeats_12 (g := xw) (fun o h9 h8 => (h9.2 h8).1) (fun v2 => ?_)
  refine T_aload_n (pc := 15) C dX12_freeSeats_15 rfl 0 rfl ?_
  refine Tc_getr (pc := 16) C 0 12 0 13 (rfl : kd 0 = 12) (by decide) (fun _ => rfl) rfl inX12 (by decide) (v := .ref (ad 1)) rfl kx_84 dX12_freeSeats_16 ?_
  refine T_iload_n (pc := 19) C dX12_freeSeats_19 rfl 1 rfl ?_
  refine T_iload_n (pc := 20) C dX12_freeSeats_20 rfl 2 rfl ?_
  refine T_iload_n (pc := 21) C dX12_freeSeats_21 rfl 3 rfl ?_
  refine T_iload (pc := 22) C dX12_freeSeats_22 4 rfl ?_
  refine T_czVip (pc := 24) zk.1 hZ C [vi x1, vi x2, vi x3, vi x4] [] (fun o h9 hw => ct_X8_seatsLeft zk N v2.1 1 x1 x2 x3 x4 (rfl : kd 1 = 8) h1 h2 h3 h4 hw o h9) kx_223 cm_X8_seatsLeft (rcc (rfl : kd 1 = 8) (by decide) (fun _ => rfl) rfl) rfl rfl (Nat.le_of_ble_eq_true rfl) (by decide) (a' := 1) (b' := 6) ⟨rfl, rfl⟩ dX12_freeSeats_24 (fun v3 hv3 => ?_)
  exact T_xiret (pc := 27) (v2.1, 0, v3) (v2.1, 0, v3) rfl (fun h9 => h9.1) hv3.1 (nar_I _) (by decide) dX12_freeSeats_27

abbrev rm_X12_freeSeatsBySweep : Room := ⟨7, 1, 6, 102⟩
theorem cm_X12_freeSeatsBySweep : cmV yX12_freeSeatsBySweep cX12_freeSeatsBySweep 5 (some .int) 4 := ⟨kx_35, kx_82, ⟨by decide +kernel, by decide +kernel, by decide +kernel⟩, kx_227, kx_228⟩
def f_X12_freeSeatsBySweep (N : Nat) (σ : Sm) (x1 : Int) (x2 : Int) (x3 : Int) (x4 : Int) : Option (So Sm) :=
  (f_X8_rideFault σ 1 x1 x2 x3 x4).bind fun v1 => (f_X12_refuse σ v1).bind fun v2 => if v2.2.1 = 0 then (f_X8_seatsLeftSwept N v2.1 1 x1 x2 x3 x4).bind fun v3 => some (v2.1, 0, v3) else some (xw v2)
theorem ct_X12_freeSeatsBySweep {l : Launch} {cy : Nat → ClassId} {ad : Nat → Nat} {E : Nat → Nat → Nat} {G : va_G} {Z : vZ} {sa : Nat → Nat} (zk : Zk Z E) (zy : Zy Z E sa) (hst : l.stackTraces = false) (N : Nat) (σ : Sm) (x1 : Int) (x2 : Int) (x3 : Int) (x4 : Int) (h1 : rng x1) (h2 : rng x2) (h3 : rng x3) (h4 : rng x4) (hw : wfc σ) (o : So Sm) (h : f_X12_freeSeatsBySweep N σ x1 x2 x3 x4 = some o) : CxI Z l yX12_freeSeatsBySweep cX12_freeSeatsBySweep 5 (some .int) rm_X12_freeSeatsBySweep (wlc cy ad E) wfc G (tyc cy) [.ref (ad 0), vi x1, vi x2, vi x3, vi x4] σ o := by
  refine cxI_of zk.1 zy.1 hst (by decide) (Nat.le_of_ble_eq_true rfl) hw o h (fun X A Q hZ hX C => ?_)
  replace hst : X.2.1.stackTraces = false := by rw [hX]; exact hst
  replace C : Cx X (Yc cy ad E G A 5 Q) cX12_freeSeatsBySweep RX12 (some .int) rm_X12_freeSeatsBySweep (tyc cy) := C
  replace hZ : Zx Z X (Yc cy ad E G A 5 Q) := hZ
  show T X (Yc cy ad E G A 5 Q) (fun w => EndXI X (Yc cy ad E G A 5 Q) cX12_freeSeatsBySweep rm_X12_freeSeatsBySweep .int w ∧ EndX X (Yc cy ad E G A 5 Q) cX12_freeSeatsBySweep RX12 rm_X12_freeSeatsBySweep w) 0 0 0 [(0, .ref (ad 0)), (1, vi x1), (2, vi x2), (3, vi x3), (4, vi x4)] [] σ (f_X12_freeSeatsBySweep N σ x1 x2 x3 x4)
  unfold f_X12_freeSeatsBySweep
  refine T_aload_n (pc := 0) C dX12_freeSeatsBySweep_0 rfl 0 rfl ?_
  refine Tc_getr (pc := 1) C 0 12 0 13 (rfl : kd 0 = 12) (by decide) (fun _ => rfl) rfl inX12 (by decide) (v := .ref (ad 1)) rfl kx_84 dX12_freeSeatsBySweep_1 ?_
  refine T_iload_n (pc := 4) C dX12_freeSeatsBySweep_4 rfl 1 rfl ?_
  refine T_iload_n (pc := 5) C dX12_freeSeatsBySweep_5 rfl 2 rfl ?_
  refine T_iload_n (pc := 6) C dX12_freeSeatsBySweep_6 rfl 3 rfl ?_
  refine T_iload (pc := 7) C dX12_freeSeatsBySweep_7 4 rfl ?_
  refine T_czVep (pc := 9) zk.1 hZ C [vi x1, vi x2, vi x3, vi x4] [] (fun o h9 hw => ct_X8_rideFault zk σ 1 x1 x2 x3 x4 (rfl : kd 1 = 8) h1 h2 h3 h4 hw o h9) kx_222 cm_X8_rideFault (rcc (rfl : kd 1 = 8) (by decide) (fun _ => rfl) rfl) rfl rfl (Nat.le_of_ble_eq_true rfl) (by decide) (a' := 0) (b' := 0) ⟨rfl, rfl⟩ dX12_freeSeatsBySweep_9 (fun v1 hv1 => ?_)
  refine T_cxSv (pc := 12) zk.1 hZ C [ve E 0 v1] [] (fun o h9 hw => ct_X12_refuse zk zy hst σ v1 hv1 hw o h9) kx_86 cm_X12_refuse rfl rfl (Nat.le_of_ble_eq_true rfl) (by decide) (a' := 1) (b' := 6) ⟨rfl, rfl⟩ dX12_freeSeatsBySweep_12 (g := xw) (fun o h9 h8 => (h9.2 h8).1) (fun v2 => ?_)
  refine T_aload_n (pc := 15) C dX12_freeSeatsBySweep_15 rfl 0 rfl ?_
  refine Tc_getr (pc := 16) C 0 12 0 13 (rfl : kd 0 = 12) (by decide) (fun _ => rfl) rfl inX12 (by decide) (v := .ref (ad 1)) rfl kx_84 dX12_freeSeatsBySweep_16 ?_
  refine T_iload_n (pc := 19) C dX12_freeSeatsBySweep_19 rfl 1 rfl ?_
  refine T_iload_n (pc := 20) C dX12_freeSeatsBySweep_20 rfl 2 rfl ?_
  refine T_iload_n (pc := 21) C dX12_freeSeatsBySweep_21 rfl 3 rfl ?_
  refine T_iload (pc := 22) C dX12_freeSeatsBySweep_22 4 rfl ?_
  refine T_czVip (pc := 24) zk.1 hZ C [vi x1, vi x2, vi x3, vi x4] [] (fun o h9 hw => ct_X8_seatsLeftSwept zk N v2.1 1 x1 x2 x3 x4 (rfl : kd 1 = 8) h1 h2 h3 h4 hw o h9) kx_226 cm_X8_seatsLeftSwept (rcc (rfl : kd 1 = 8) (by decide) (fun _ => rfl) rfl) rfl rfl (Nat.le_of_ble_eq_true rfl) (by decide) (a' := 1) (b' := 6) ⟨rfl, rfl⟩ dX12_freeSeatsBySweep_24 (fun v3 hv3 => ?_)
  exact T_xiret (pc := 27) (v2.1, 0, v3) (v2.1, 0, v3) rfl (fun h9 => h9.1) hv3.1 (nar_I _) (by decide) dX12_freeSeatsBySweep_27

abbrev rm_X12_ticketCount : Room := ⟨1, 0, 0, 20⟩
theorem cm_X12_ticketCount : cmV yX12_ticketCount cX12_ticketCount 1 (some .int) 0 := ⟨kx_36, kx_82, ⟨by decide +kernel, by decide +kernel, by decide +kernel⟩, kx_230, kx_231⟩
def f_X12_ticketCount (σ : Sm) : Option Int :=
  some (σ 6 1)
theorem ct_X12_ticketCount {l : Launch} {cy : Nat → ClassId} {ad : Nat → Nat} {E : Nat → Nat → Nat} {G : va_G} {Z : vZ} {sa : Nat → Nat} (zk : Zk Z E) (zy : Zy Z E sa) (σ : Sm) (hw : wfc σ) (o : Int) (h : f_X12_ticketCount σ = some o) : CzI Z l yX12_ticketCount cX12_ticketCount 1 (some .int) rm_X12_ticketCount (wlc cy ad E) wfc G (tyc cy) [.ref (ad 0)] σ σ o := by
  refine czI_of zk.1 (plainFor_of_name (by decide)) (Nat.le_of_ble_eq_true rfl) hw (σ, o) o h (fun X Y v => EndI X Y cX12_ticketCount rm_X12_ticketCount .int (σ, v)) (fun _ _ h => h) (fun X A Q hZ hX C => ?_)
  replace C : Cx X (Yc cy ad E G A 1 Q) cX12_ticketCount RX12 (some .int) rm_X12_ticketCount (tyc cy) := C
  replace hZ : Zx Z X (Yc cy ad E G A 1 Q) := hZ
  show T X (Yc cy ad E G A 1 Q) (fun v => EndI X (Yc cy ad E G A 1 Q) cX12_ticketCount rm_X12_ticketCount .int (σ, v)) 0 0 0 [(0, .ref (ad 0))] [] σ (f_X12_ticketCount σ)
  unfold f_X12_ticketCount
  refine T_aload_n (pc := 0) C dX12_ticketCount_0 rfl 0 rfl ?_
  refine Tc_getr (pc := 1) C 0 12 0 13 (rfl : kd 0 = 12) (by decide) (fun _ => rfl) rfl inX12 (by decide) (v := .ref (ad 1)) rfl kx_84 dX12_ticketCount_1 ?_
  refine Tc_getr (pc := 4) C 1 8 9 10 (rfl : kd 1 = 8) (by decide) (fun _ => rfl) rfl inX8 (by decide) (v := .ref (ad 6)) rfl kx_132 dX12_ticketCount_4 ?_
  refine Tc_geti (pc := 7) C 6 11 1 6 (kd_8 (rfl : kd 1 = 8)).2.2.2.2.1 (by decide) (fun _ => rfl) rfl inX11 (by decide) rfl kx_229 dX12_ticketCount_7 (fun z1 => ?_)
  exact T_iret (pc := 10) (σ 6 1) (fun h9 => h9) z1 (nar_I _) (by decide) dX12_ticketCount_10

abbrev rm_X12_ticketAt : Room := ⟨6, 1, 6, 82⟩
theorem cm_X12_ticketAt : cmV yX12_ticketAt cX12_ticketAt 2 (some .int) 1 := ⟨kx_37, kx_82, ⟨by decide +kernel, by decide +kernel, by decide +kernel⟩, kx_234, kx_235⟩
def f_X12_ticketAt (σ : Sm) (x1 : Int) : Option (So Sm) :=
  (if x1 < 0 then some (σ, 1, 0) else (if x1 < (σ 6 1) then if 0 ≤ x1 ∧ x1 < 16 then some (σ, 0, (σ (σ 7 x1.toNat).toNat 0)) else none else some (σ, 1, 0)))
theorem ct_X12_ticketAt {l : Launch} {cy : Nat → ClassId} {ad : Nat → Nat} {E : Nat → Nat → Nat} {G : va_G} {Z : vZ} {sa : Nat → Nat} (zk : Zk Z E) (zy : Zy Z E sa) (hst : l.stackTraces = false) (σ : Sm) (x1 : Int) (h1 : rng x1) (hw : wfc σ) (o : So Sm) (h : f_X12_ticketAt σ x1 = some o) : CxI Z l yX12_ticketAt cX12_ticketAt 2 (some .int) rm_X12_ticketAt (wlc cy ad E) wfc G (tyc cy) [.ref (ad 0), vi x1] σ o := by
  refine cxI_of zk.1 zy.1 hst (by decide) (Nat.le_of_ble_eq_true rfl) hw o h (fun X A Q hZ hX C => ?_)
  replace hst : X.2.1.stackTraces = false := by rw [hX]; exact hst
  replace C : Cx X (Yc cy ad E G A 2 Q) cX12_ticketAt RX12 (some .int) rm_X12_ticketAt (tyc cy) := C
  replace hZ : Zx Z X (Yc cy ad E G A 2 Q) := hZ
  show T X (Yc cy ad E G A 2 Q) (fun w => EndXI X (Yc cy ad E G A 2 Q) cX12_ticketAt rm_X12_ticketAt .int w ∧ EndX X (Yc cy ad E G A 2 Q) cX12_ticketAt RX12 rm_X12_ticketAt w) 0 0 0 [(0, .ref (ad 0)), (1, vi x1)] [] σ (f_X12_ticketAt σ x1)
  unfold f_X12_ticketAt
  refine T_iload_n (pc := 0) C dX12_ticketAt_0 rfl 1 rfl ?_
  refine T_if_lt (pc := 1) C 18 dX12_ticketAt_1 rfl h1 (fun c1 => ?_) (fun c1 => ?_)
  · exact T_throw (pc := 18) 1 (σ, 1, 0) (fun h9 => h9.2) (by decide) (sa 208) "no such position" "java/lang/IndexOutOfBoundsException" rfl ["java/lang/RuntimeException", "java/lang/Exception"] (by decide +kernel) (by decide +kernel) kx_72 kx_73 (zy.2.1 _ _ _ hZ (208, "no such position") (List.mem_of_getElem? (i := 6) rfl)) (xn_at zy hZ xa_0) (by decide) (by decide) (by decide) dX12_ticketAt_18 dX12_ticketAt_21 (Or.inl ⟨dX12_ticketAt_22, dX12_ticketAt_24, dX12_ticketAt_27⟩)
  · refine T_iload_n (pc := 4) C dX12_ticketAt_4 rfl 1 rfl ?_
    refine T_aload_n (pc := 5) C dX12_ticketAt_5 rfl 0 rfl ?_
    refine Tc_getr (pc := 6) C 0 12 0 13 (rfl : kd 0 = 12) (by decide) (fun _ => rfl) rfl inX12 (by decide) (v := .ref (ad 1)) rfl kx_84 dX12_ticketAt_6 ?_
    refine Tc_getr (pc := 9) C 1 8 9 10 (rfl : kd 1 = 8) (by decide) (fun _ => rfl) rfl inX8 (by decide) (v := .ref (ad 6)) rfl kx_132 dX12_ticketAt_9 ?_
    refine Tc_geti (pc := 12) C 6 11 1 6 (kd_8 (rfl : kd 1 = 8)).2.2.2.2.1 (by decide) (fun _ => rfl) rfl inX11 (by decide) rfl kx_229 dX12_ticketAt_12 (fun z2 => ?_)
    refine T_icmp_lt (pc := 15) C 28 dX12_ticketAt_15 rfl h1 z2 (fun c3 => ?_) (fun c3 => ?_)
    · refine T_aload_n (pc := 28) C dX12_ticketAt_28 rfl 0 rfl ?_
      refine Tc_getr (pc := 29) C 0 12 0 13 (rfl : kd 0 = 12) (by decide) (fun _ => rfl) rfl inX12 (by decide) (v := .ref (ad 1)) rfl kx_84 dX12_ticketAt_29 ?_
      refine Tc_getr (pc := 32) C 1 8 9 10 (rfl : kd 1 = 8) (by decide) (fun _ => rfl) rfl inX8 (by decide) (v := .ref (ad 6)) rfl kx_132 dX12_ticketAt_32 ?_
      refine Tc_getr (pc := 35) C 6 11 0 6 (kd_8 (rfl : kd 1 = 8)).2.2.2.2.1 (by decide) (fun _ => rfl) rfl inX11 (by decide) (v := .ref (ad 7)) rfl kx_232 dX12_ticketAt_35 ?_
      refine T_iload_n (pc := 38) C dX12_ticketAt_38 rfl 1 rfl ?_
      refine T_guard (fun g4 => ?_)
      refine Tc_ald28 (pc := 39) C 7 x1.toNat (kd_11 (kd_8 (rfl : kd 1 = 8)).2.2.2.2.1) g4 rfl dX12_ticketAt_39 (fun y5 => ?_)
      refine Tc_geti (pc := 40) C (σ 7 x1.toNat).toNat 10 0 6 y5.2 (by decide) (fun _ => rfl) rfl inX10 (by decide) rfl kx_233 dX12_ticketAt_40 (fun z6 => ?_)
      exact T_xiret (pc := 43) (σ, 0, (σ (σ 7 x1.toNat).toNat 0)) (σ, 0, (σ (σ 7 x1.toNat).toNat 0)) rfl (fun h9 => h9.1) z6 (nar_I _) (by decide) dX12_ticketAt_43
    · exact T_throw (pc := 18) 1 (σ, 1, 0) (fun h9 => h9.2) (by decide) (sa 208) "no such position" "java/lang/IndexOutOfBoundsException" rfl ["java/lang/RuntimeException", "java/lang/Exception"] (by decide +kernel) (by decide +kernel) kx_72 kx_73 (zy.2.1 _ _ _ hZ (208, "no such position") (List.mem_of_getElem? (i := 6) rfl)) (xn_at zy hZ xa_0) (by decide) (by decide) (by decide) dX12_ticketAt_18 dX12_ticketAt_21 (Or.inl ⟨dX12_ticketAt_22, dX12_ticketAt_24, dX12_ticketAt_27⟩)

abbrev rm_X12_ticketLine : Room := ⟨7, 1, 6, 104⟩
theorem cm_X12_ticketLine : cmV yX12_ticketLine cX12_ticketLine 2 (some .int) 1 := ⟨kx_38, kx_82, ⟨by decide +kernel, by decide +kernel, by decide +kernel⟩, kx_237, kx_238⟩
def f_X12_ticketLine (N : Nat) (σ : Sm) (x1 : Int) : Option (So Sm) :=
  (f_X12_knownTicket N σ x1).bind fun v1 => if v1.2.1 = 0 then if 0 ≤ v1.2.2 ∧ v1.2.2 < 16 then some (v1.1, 0, (v1.1 (v1.1 7 v1.2.2.toNat).toNat 1)) else none else some (xw v1)
theorem ct_X12_ticketLine {l : Launch} {cy : Nat → ClassId} {ad : Nat → Nat} {E : Nat → Nat → Nat} {G : va_G} {Z : vZ} {sa : Nat → Nat} (zk : Zk Z E) (zy : Zy Z E sa) (hst : l.stackTraces = false) (N : Nat) (σ : Sm) (x1 : Int) (h1 : rng x1) (hw : wfc σ) (o : So Sm) (h : f_X12_ticketLine N σ x1 = some o) : CxI Z l yX12_ticketLine cX12_ticketLine 2 (some .int) rm_X12_ticketLine (wlc cy ad E) wfc G (tyc cy) [.ref (ad 0), vi x1] σ o := by
  refine cxI_of zk.1 zy.1 hst (by decide) (Nat.le_of_ble_eq_true rfl) hw o h (fun X A Q hZ hX C => ?_)
  replace hst : X.2.1.stackTraces = false := by rw [hX]; exact hst
  replace C : Cx X (Yc cy ad E G A 2 Q) cX12_ticketLine RX12 (some .int) rm_X12_ticketLine (tyc cy) := C
  replace hZ : Zx Z X (Yc cy ad E G A 2 Q) := hZ
  show T X (Yc cy ad E G A 2 Q) (fun w => EndXI X (Yc cy ad E G A 2 Q) cX12_ticketLine rm_X12_ticketLine .int w ∧ EndX X (Yc cy ad E G A 2 Q) cX12_ticketLine RX12 rm_X12_ticketLine w) 0 0 0 [(0, .ref (ad 0)), (1, vi x1)] [] σ (f_X12_ticketLine N σ x1)
  unfold f_X12_ticketLine
  refine T_aload_n (pc := 0) C dX12_ticketLine_0 rfl 0 rfl ?_
  refine Tc_getr (pc := 1) C 0 12 0 13 (rfl : kd 0 = 12) (by decide) (fun _ => rfl) rfl inX12 (by decide) (v := .ref (ad 1)) rfl kx_84 dX12_ticketLine_1 ?_
  refine Tc_getr (pc := 4) C 1 8 9 10 (rfl : kd 1 = 8) (by decide) (fun _ => rfl) rfl inX8 (by decide) (v := .ref (ad 6)) rfl kx_132 dX12_ticketLine_4 ?_
  refine Tc_getr (pc := 7) C 6 11 0 6 (kd_8 (rfl : kd 1 = 8)).2.2.2.2.1 (by decide) (fun _ => rfl) rfl inX11 (by decide) (v := .ref (ad 7)) rfl kx_232 dX12_ticketLine_7 ?_
  refine T_aload_n (pc := 10) C dX12_ticketLine_10 rfl 0 rfl ?_
  refine T_iload_n (pc := 11) C dX12_ticketLine_11 rfl 1 rfl ?_
  refine T_cxVi (pc := 12) zk.1 hZ C [vi x1] [.ref (ad 7)] (fun o h9 hw => ct_X12_knownTicket zk zy hst N σ x1 h1 hw o h9) kx_136 cm_X12_knownTicket (rcc (rfl : kd 0 = 12) (by decide) (fun _ => rfl) rfl) rfl rfl (Nat.le_of_ble_eq_true rfl) (by decide) (a' := 1) (b' := 6) ⟨rfl, rfl⟩ dX12_ticketLine_12 (g := xw) (fun o h9 h8 => (h9.2 h8).1) (fun v1 hv1 => ?_)
  refine T_guard (fun g2 => ?_)
  refine Tc_ald28 (pc := 15) C 7 v1.2.2.toNat (kd_11 (kd_8 (rfl : kd 1 = 8)).2.2.2.2.1) g2 rfl dX12_ticketLine_15 (fun y3 => ?_)
  refine Tc_geti (pc := 16) C (v1.1 7 v1.2.2.toNat).toNat 10 1 6 y3.2 (by decide) (fun _ => rfl) rfl inX10 (by decide) rfl kx_236 dX12_ticketLine_16 (fun z4 => ?_)
  exact T_xiret (pc := 19) (v1.1, 0, (v1.1 (v1.1 7 v1.2.2.toNat).toNat 1)) (v1.1, 0, (v1.1 (v1.1 7 v1.2.2.toNat).toNat 1)) rfl (fun h9 => h9.1) z4 (nar_I _) (by decide) dX12_ticketLine_19

abbrev rm_X12_ticketTrip : Room := ⟨7, 1, 6, 104⟩
theorem cm_X12_ticketTrip : cmV yX12_ticketTrip cX12_ticketTrip 2 (some .int) 1 := ⟨kx_39, kx_82, ⟨by decide +kernel, by decide +kernel, by decide +kernel⟩, kx_240, kx_241⟩
def f_X12_ticketTrip (N : Nat) (σ : Sm) (x1 : Int) : Option (So Sm) :=
  (f_X12_knownTicket N σ x1).bind fun v1 => if v1.2.1 = 0 then if 0 ≤ v1.2.2 ∧ v1.2.2 < 16 then some (v1.1, 0, (v1.1 (v1.1 7 v1.2.2.toNat).toNat 2)) else none else some (xw v1)
theorem ct_X12_ticketTrip {l : Launch} {cy : Nat → ClassId} {ad : Nat → Nat} {E : Nat → Nat → Nat} {G : va_G} {Z : vZ} {sa : Nat → Nat} (zk : Zk Z E) (zy : Zy Z E sa) (hst : l.stackTraces = false) (N : Nat) (σ : Sm) (x1 : Int) (h1 : rng x1) (hw : wfc σ) (o : So Sm) (h : f_X12_ticketTrip N σ x1 = some o) : CxI Z l yX12_ticketTrip cX12_ticketTrip 2 (some .int) rm_X12_ticketTrip (wlc cy ad E) wfc G (tyc cy) [.ref (ad 0), vi x1] σ o := by
  refine cxI_of zk.1 zy.1 hst (by decide) (Nat.le_of_ble_eq_true rfl) hw o h (fun X A Q hZ hX C => ?_)
  replace hst : X.2.1.stackTraces = false := by rw [hX]; exact hst
  replace C : Cx X (Yc cy ad E G A 2 Q) cX12_ticketTrip RX12 (some .int) rm_X12_ticketTrip (tyc cy) := C
  replace hZ : Zx Z X (Yc cy ad E G A 2 Q) := hZ
  show T X (Yc cy ad E G A 2 Q) (fun w => EndXI X (Yc cy ad E G A 2 Q) cX12_ticketTrip rm_X12_ticketTrip .int w ∧ EndX X (Yc cy ad E G A 2 Q) cX12_ticketTrip RX12 rm_X12_ticketTrip w) 0 0 0 [(0, .ref (ad 0)), (1, vi x1)] [] σ (f_X12_ticketTrip N σ x1)
  unfold f_X12_ticketTrip
  refine T_aload_n (pc := 0) C dX12_ticketTrip_0 rfl 0 rfl ?_
  refine Tc_getr (pc := 1) C 0 12 0 13 (rfl : kd 0 = 12) (by decide) (fun _ => rfl) rfl inX12 (by decide) (v := .ref (ad 1)) rfl kx_84 dX12_ticketTrip_1 ?_
  refine Tc_getr (pc := 4) C 1 8 9 10 (rfl : kd 1 = 8) (by decide) (fun _ => rfl) rfl inX8 (by decide) (v := .ref (ad 6)) rfl kx_132 dX12_ticketTrip_4 ?_
  refine Tc_getr (pc := 7) C 6 11 0 6 (kd_8 (rfl : kd 1 = 8)).2.2.2.2.1 (by decide) (fun _ => rfl) rfl inX11 (by decide) (v := .ref (ad 7)) rfl kx_232 dX12_ticketTrip_7 ?_
  refine T_aload_n (pc := 10) C dX12_ticketTrip_10 rfl 0 rfl ?_
  refine T_iload_n (pc := 11) C dX12_ticketTrip_11 rfl 1 rfl ?_
  refine T_cxVi (pc := 12) zk.1 hZ C [vi x1] [.ref (ad 7)] (fun o h9 hw => ct_X12_knownTicket zk zy hst N σ x1 h1 hw o h9) kx_136 cm_X12_knownTicket (rcc (rfl : kd 0 = 12) (by decide) (fun _ => rfl) rfl) rfl rfl (Nat.le_of_ble_eq_true rfl) (by decide) (a' := 1) (b' := 6) ⟨rfl, rfl⟩ dX12_ticketTrip_12 (g := xw) (fun o h9 h8 => (h9.2 h8).1) (fun v1 hv1 => ?_)
  refine T_guard (fun g2 => ?_)
  refine Tc_ald28 (pc := 15) C 7 v1.2.2.toNat (kd_11 (kd_8 (rfl : kd 1 = 8)).2.2.2.2.1) g2 rfl dX12_ticketTrip_15 (fun y3 => ?_)
  refine Tc_geti (pc := 16) C (v1.1 7 v1.2.2.toNat).toNat 10 2 6 y3.2 (by decide) (fun _ => rfl) rfl inX10 (by decide) rfl kx_239 dX12_ticketTrip_16 (fun z4 => ?_)
  exact T_xiret (pc := 19) (v1.1, 0, (v1.1 (v1.1 7 v1.2.2.toNat).toNat 2)) (v1.1, 0, (v1.1 (v1.1 7 v1.2.2.toNat).toNat 2)) rfl (fun h9 => h9.1) z4 (nar_I _) (by decide) dX12_ticketTrip_19

abbrev rm_X12_ticketFrom : Room := ⟨7, 1, 6, 104⟩
theorem cm_X12_ticketFrom : cmV yX12_ticketFrom cX12_ticketFrom 2 (some .int) 1 := ⟨kx_40, kx_82, ⟨by decide +kernel, by decide +kernel, by decide +kernel⟩, kx_243, kx_244⟩
def f_X12_ticketFrom (N : Nat) (σ : Sm) (x1 : Int) : Option (So Sm) :=
  (f_X12_knownTicket N σ x1).bind fun v1 => if v1.2.1 = 0 then if 0 ≤ v1.2.2 ∧ v1.2.2 < 16 then some (v1.1, 0, (v1.1 (v1.1 7 v1.2.2.toNat).toNat 3)) else none else some (xw v1)
theorem ct_X12_ticketFrom {l : Launch} {cy : Nat → ClassId} {ad : Nat → Nat} {E : Nat → Nat → Nat} {G : va_G} {Z : vZ} {sa : Nat → Nat} (zk : Zk Z E) (zy : Zy Z E sa) (hst : l.stackTraces = false) (N : Nat) (σ : Sm) (x1 : Int) (h1 : rng x1) (hw : wfc σ) (o : So Sm) (h : f_X12_ticketFrom N σ x1 = some o) : CxI Z l yX12_ticketFrom cX12_ticketFrom 2 (some .int) rm_X12_ticketFrom (wlc cy ad E) wfc G (tyc cy) [.ref (ad 0), vi x1] σ o := by
  refine cxI_of zk.1 zy.1 hst (by decide) (Nat.le_of_ble_eq_true rfl) hw o h (fun X A Q hZ hX C => ?_)
  replace hst : X.2.1.stackTraces = false := by rw [hX]; exact hst
  replace C : Cx X (Yc cy ad E G A 2 Q) cX12_ticketFrom RX12 (some .int) rm_X12_ticketFrom (tyc cy) := C
  replace hZ : Zx Z X (Yc cy ad E G A 2 Q) := hZ
  show T X (Yc cy ad E G A 2 Q) (fun w => EndXI X (Yc cy ad E G A 2 Q) cX12_ticketFrom rm_X12_ticketFrom .int w ∧ EndX X (Yc cy ad E G A 2 Q) cX12_ticketFrom RX12 rm_X12_ticketFrom w) 0 0 0 [(0, .ref (ad 0)), (1, vi x1)] [] σ (f_X12_ticketFrom N σ x1)
  unfold f_X12_ticketFrom
  refine T_aload_n (pc := 0) C dX12_ticketFrom_0 rfl 0 rfl ?_
  refine Tc_getr (pc := 1) C 0 12 0 13 (rfl : kd 0 = 12) (by decide) (fun _ => rfl) rfl inX12 (by decide) (v := .ref (ad 1)) rfl kx_84 dX12_ticketFrom_1 ?_
  refine Tc_getr (pc := 4) C 1 8 9 10 (rfl : kd 1 = 8) (by decide) (fun _ => rfl) rfl inX8 (by decide) (v := .ref (ad 6)) rfl kx_132 dX12_ticketFrom_4 ?_
  refine Tc_getr (pc := 7) C 6 11 0 6 (kd_8 (rfl : kd 1 = 8)).2.2.2.2.1 (by decide) (fun _ => rfl) rfl inX11 (by decide) (v := .ref (ad 7)) rfl kx_232 dX12_ticketFrom_7 ?_
  refine T_aload_n (pc := 10) C dX12_ticketFrom_10 rfl 0 rfl ?_
  refine T_iload_n (pc := 11) C dX12_ticketFrom_11 rfl 1 rfl ?_
  refine T_cxVi (pc := 12) zk.1 hZ C [vi x1] [.ref (ad 7)] (fun o h9 hw => ct_X12_knownTicket zk zy hst N σ x1 h1 hw o h9) kx_136 cm_X12_knownTicket (rcc (rfl : kd 0 = 12) (by decide) (fun _ => rfl) rfl) rfl rfl (Nat.le_of_ble_eq_true rfl) (by decide) (a' := 1) (b' := 6) ⟨rfl, rfl⟩ dX12_ticketFrom_12 (g := xw) (fun o h9 h8 => (h9.2 h8).1) (fun v1 hv1 => ?_)
  refine T_guard (fun g2 => ?_)
  refine Tc_ald28 (pc := 15) C 7 v1.2.2.toNat (kd_11 (kd_8 (rfl : kd 1 = 8)).2.2.2.2.1) g2 rfl dX12_ticketFrom_15 (fun y3 => ?_)
  refine Tc_geti (pc := 16) C (v1.1 7 v1.2.2.toNat).toNat 10 3 6 y3.2 (by decide) (fun _ => rfl) rfl inX10 (by decide) rfl kx_242 dX12_ticketFrom_16 (fun z4 => ?_)
  exact T_xiret (pc := 19) (v1.1, 0, (v1.1 (v1.1 7 v1.2.2.toNat).toNat 3)) (v1.1, 0, (v1.1 (v1.1 7 v1.2.2.toNat).toNat 3)) rfl (fun h9 => h9.1) z4 (nar_I _) (by decide) dX12_ticketFrom_19

abbrev rm_X12_ticketTo : Room := ⟨7, 1, 6, 104⟩
theorem cm_X12_ticketTo : cmV yX12_ticketTo cX12_ticketTo 2 (some .int) 1 := ⟨kx_41, kx_82, ⟨by decide +kernel, by decide +kernel, by decide +kernel⟩, kx_246, kx_247⟩
def f_X12_ticketTo (N : Nat) (σ : Sm) (x1 : Int) : Option (So Sm) :=
  (f_X12_knownTicket N σ x1).bind fun v1 => if v1.2.1 = 0 then if 0 ≤ v1.2.2 ∧ v1.2.2 < 16 then some (v1.1, 0, (v1.1 (v1.1 7 v1.2.2.toNat).toNat 4)) else none else some (xw v1)
theorem ct_X12_ticketTo {l : Launch} {cy : Nat → ClassId} {ad : Nat → Nat} {E : Nat → Nat → Nat} {G : va_G} {Z : vZ} {sa : Nat → Nat} (zk : Zk Z E) (zy : Zy Z E sa) (hst : l.stackTraces = false) (N : Nat) (σ : Sm) (x1 : Int) (h1 : rng x1) (hw : wfc σ) (o : So Sm) (h : f_X12_ticketTo N σ x1 = some o) : CxI Z l yX12_ticketTo cX12_ticketTo 2 (some .int) rm_X12_ticketTo (wlc cy ad E) wfc G (tyc cy) [.ref (ad 0), vi x1] σ o := by
  refine cxI_of zk.1 zy.1 hst (by decide) (Nat.le_of_ble_eq_true rfl) hw o h (fun X A Q hZ hX C => ?_)
  replace hst : X.2.1.stackTraces = false := by rw [hX]; exact hst
  replace C : Cx X (Yc cy ad E G A 2 Q) cX12_ticketTo RX12 (some .int) rm_X12_ticketTo (tyc cy) := C
  replace hZ : Zx Z X (Yc cy ad E G A 2 Q) := hZ
  show T X (Yc cy ad E G A 2 Q) (fun w => EndXI X (Yc cy ad E G A 2 Q) cX12_ticketTo rm_X12_ticketTo .int w ∧ EndX X (Yc cy ad E G A 2 Q) cX12_ticketTo RX12 rm_X12_ticketTo w) 0 0 0 [(0, .ref (ad 0)), (1, vi x1)] [] σ (f_X12_ticketTo N σ x1)
  unfold f_X12_ticketTo
  refine T_aload_n (pc := 0) C dX12_ticketTo_0 rfl 0 rfl ?_
  refine Tc_getr (pc := 1) C 0 12 0 13 (rfl : kd 0 = 12) (by decide) (fun _ => rfl) rfl inX12 (by decide) (v := .ref (ad 1)) rfl kx_84 dX12_ticketTo_1 ?_
  refine Tc_getr (pc := 4) C 1 8 9 10 (rfl : kd 1 = 8) (by decide) (fun _ => rfl) rfl inX8 (by decide) (v := .ref (ad 6)) rfl kx_132 dX12_ticketTo_4 ?_
  refine Tc_getr (pc := 7) C 6 11 0 6 (kd_8 (rfl : kd 1 = 8)).2.2.2.2.1 (by decide) (fun _ => rfl) rfl inX11 (by decide) (v := .ref (ad 7)) rfl kx_232 dX12_ticketTo_7 ?_
  refine T_aload_n (pc := 10) C dX12_ticketTo_10 rfl 0 rfl ?_
  refine T_iload_n (pc := 11) C dX12_ticketTo_11 rfl 1 rfl ?_
  refine T_cxVi (pc := 12) zk.1 hZ C [vi x1] [.ref (ad 7)] (fun o h9 hw => ct_X12_knownTicket zk zy hst N σ x1 h1 hw o h9) kx_136 cm_X12_knownTicket (rcc (rfl : kd 0 = 12) (by decide) (fun _ => rfl) rfl) rfl rfl (Nat.le_of_ble_eq_true rfl) (by decide) (a' := 1) (b' := 6) ⟨rfl, rfl⟩ dX12_ticketTo_12 (g := xw) (fun o h9 h8 => (h9.2 h8).1) (fun v1 hv1 => ?_)
  refine T_guard (fun g2 => ?_)
  refine Tc_ald28 (pc := 15) C 7 v1.2.2.toNat (kd_11 (kd_8 (rfl : kd 1 = 8)).2.2.2.2.1) g2 rfl dX12_ticketTo_15 (fun y3 => ?_)
  refine Tc_geti (pc := 16) C (v1.1 7 v1.2.2.toNat).toNat 10 4 6 y3.2 (by decide) (fun _ => rfl) rfl inX10 (by decide) rfl kx_245 dX12_ticketTo_16 (fun z4 => ?_)
  exact T_xiret (pc := 19) (v1.1, 0, (v1.1 (v1.1 7 v1.2.2.toNat).toNat 4)) (v1.1, 0, (v1.1 (v1.1 7 v1.2.2.toNat).toNat 4)) rfl (fun h9 => h9.1) z4 (nar_I _) (by decide) dX12_ticketTo_19

abbrev rm_X12_ticketPrice : Room := ⟨7, 1, 6, 104⟩
theorem cm_X12_ticketPrice : cmV yX12_ticketPrice cX12_ticketPrice 2 (some .int) 1 := ⟨kx_42, kx_82, ⟨by decide +kernel, by decide +kernel, by decide +kernel⟩, kx_249, kx_250⟩
def f_X12_ticketPrice (N : Nat) (σ : Sm) (x1 : Int) : Option (So Sm) :=
  (f_X12_knownTicket N σ x1).bind fun v1 => if v1.2.1 = 0 then if 0 ≤ v1.2.2 ∧ v1.2.2 < 16 then some (v1.1, 0, (v1.1 (v1.1 7 v1.2.2.toNat).toNat 5)) else none else some (xw v1)
theorem ct_X12_ticketPrice {l : Launch} {cy : Nat → ClassId} {ad : Nat → Nat} {E : Nat → Nat → Nat} {G : va_G} {Z : vZ} {sa : Nat → Nat} (zk : Zk Z E) (zy : Zy Z E sa) (hst : l.stackTraces = false) (N : Nat) (σ : Sm) (x1 : Int) (h1 : rng x1) (hw : wfc σ) (o : So Sm) (h : f_X12_ticketPrice N σ x1 = some o) : CxI Z l yX12_ticketPrice cX12_ticketPrice 2 (some .int) rm_X12_ticketPrice (wlc cy ad E) wfc G (tyc cy) [.ref (ad 0), vi x1] σ o := by
  refine cxI_of zk.1 zy.1 hst (by decide) (Nat.le_of_ble_eq_true rfl) hw o h (fun X A Q hZ hX C => ?_)
  replace hst : X.2.1.stackTraces = false := by rw [hX]; exact hst
  replace C : Cx X (Yc cy ad E G A 2 Q) cX12_ticketPrice RX12 (some .int) rm_X12_ticketPrice (tyc cy) := C
  replace hZ : Zx Z X (Yc cy ad E G A 2 Q) := hZ
  show T X (Yc cy ad E G A 2 Q) (fun w => EndXI X (Yc cy ad E G A 2 Q) cX12_ticketPrice rm_X12_ticketPrice .int w ∧ EndX X (Yc cy ad E G A 2 Q) cX12_ticketPrice RX12 rm_X12_ticketPrice w) 0 0 0 [(0, .ref (ad 0)), (1, vi x1)] [] σ (f_X12_ticketPrice N σ x1)
  unfold f_X12_ticketPrice
  refine T_aload_n (pc := 0) C dX12_ticketPrice_0 rfl 0 rfl ?_
  refine Tc_getr (pc := 1) C 0 12 0 13 (rfl : kd 0 = 12) (by decide) (fun _ => rfl) rfl inX12 (by decide) (v := .ref (ad 1)) rfl kx_84 dX12_ticketPrice_1 ?_
  refine Tc_getr (pc := 4) C 1 8 9 10 (rfl : kd 1 = 8) (by decide) (fun _ => rfl) rfl inX8 (by decide) (v := .ref (ad 6)) rfl kx_132 dX12_ticketPrice_4 ?_
  refine Tc_getr (pc := 7) C 6 11 0 6 (kd_8 (rfl : kd 1 = 8)).2.2.2.2.1 (by decide) (fun _ => rfl) rfl inX11 (by decide) (v := .ref (ad 7)) rfl kx_232 dX12_ticketPrice_7 ?_
  refine T_aload_n (pc := 10) C dX12_ticketPrice_10 rfl 0 rfl ?_
  refine T_iload_n (pc := 11) C dX12_ticketPrice_11 rfl 1 rfl ?_
  refine T_cxVi (pc := 12) zk.1 hZ C [vi x1] [.ref (ad 7)] (fun o h9 hw => ct_X12_knownTicket zk zy hst N σ x1 h1 hw o h9) kx_136 cm_X12_knownTicket (rcc (rfl : kd 0 = 12) (by decide) (fun _ => rfl) rfl) rfl rfl (Nat.le_of_ble_eq_true rfl) (by decide) (a' := 1) (b' := 6) ⟨rfl, rfl⟩ dX12_ticketPrice_12 (g := xw) (fun o h9 h8 => (h9.2 h8).1) (fun v1 hv1 => ?_)
  refine T_guard (fun g2 => ?_)
  refine Tc_ald28 (pc := 15) C 7 v1.2.2.toNat (kd_11 (kd_8 (rfl : kd 1 = 8)).2.2.2.2.1) g2 rfl dX12_ticketPrice_15 (fun y3 => ?_)
  refine Tc_geti (pc := 16) C (v1.1 7 v1.2.2.toNat).toNat 10 5 6 y3.2 (by decide) (fun _ => rfl) rfl inX10 (by decide) rfl kx_248 dX12_ticketPrice_16 (fun z4 => ?_)
  exact T_xiret (pc := 19) (v1.1, 0, (v1.1 (v1.1 7 v1.2.2.toNat).toNat 5)) (v1.1, 0, (v1.1 (v1.1 7 v1.2.2.toNat).toNat 5)) rfl (fun h9 => h9.1) z4 (nar_I _) (by decide) dX12_ticketPrice_19

abbrev rm_X12_income : Room := ⟨1, 0, 0, 20⟩
theorem cm_X12_income : cmV yX12_income cX12_income 1 (some .int) 0 := ⟨kx_43, kx_82, ⟨by decide +kernel, by decide +kernel, by decide +kernel⟩, kx_252, kx_253⟩
def f_X12_income (σ : Sm) : Option Int :=
  some (σ 6 3)
theorem ct_X12_income {l : Launch} {cy : Nat → ClassId} {ad : Nat → Nat} {E : Nat → Nat → Nat} {G : va_G} {Z : vZ} {sa : Nat → Nat} (zk : Zk Z E) (zy : Zy Z E sa) (σ : Sm) (hw : wfc σ) (o : Int) (h : f_X12_income σ = some o) : CzI Z l yX12_income cX12_income 1 (some .int) rm_X12_income (wlc cy ad E) wfc G (tyc cy) [.ref (ad 0)] σ σ o := by
  refine czI_of zk.1 (plainFor_of_name (by decide)) (Nat.le_of_ble_eq_true rfl) hw (σ, o) o h (fun X Y v => EndI X Y cX12_income rm_X12_income .int (σ, v)) (fun _ _ h => h) (fun X A Q hZ hX C => ?_)
  replace C : Cx X (Yc cy ad E G A 1 Q) cX12_income RX12 (some .int) rm_X12_income (tyc cy) := C
  replace hZ : Zx Z X (Yc cy ad E G A 1 Q) := hZ
  show T X (Yc cy ad E G A 1 Q) (fun v => EndI X (Yc cy ad E G A 1 Q) cX12_income rm_X12_income .int (σ, v)) 0 0 0 [(0, .ref (ad 0))] [] σ (f_X12_income σ)
  unfold f_X12_income
  refine T_aload_n (pc := 0) C dX12_income_0 rfl 0 rfl ?_
  refine Tc_getr (pc := 1) C 0 12 0 13 (rfl : kd 0 = 12) (by decide) (fun _ => rfl) rfl inX12 (by decide) (v := .ref (ad 1)) rfl kx_84 dX12_income_1 ?_
  refine Tc_getr (pc := 4) C 1 8 9 10 (rfl : kd 1 = 8) (by decide) (fun _ => rfl) rfl inX8 (by decide) (v := .ref (ad 6)) rfl kx_132 dX12_income_4 ?_
  refine Tc_geti (pc := 7) C 6 11 3 6 (kd_8 (rfl : kd 1 = 8)).2.2.2.2.1 (by decide) (fun _ => rfl) rfl inX11 (by decide) rfl kx_251 dX12_income_7 (fun z1 => ?_)
  exact T_iret (pc := 10) (σ 6 3) (fun h9 => h9) z1 (nar_I _) (by decide) dX12_income_10

abbrev rm_X12_refundedCoins : Room := ⟨1, 0, 0, 20⟩
theorem cm_X12_refundedCoins : cmV yX12_refundedCoins cX12_refundedCoins 1 (some .int) 0 := ⟨kx_44, kx_82, ⟨by decide +kernel, by decide +kernel, by decide +kernel⟩, kx_255, kx_256⟩
def f_X12_refundedCoins (σ : Sm) : Option Int :=
  some (σ 6 4)
theorem ct_X12_refundedCoins {l : Launch} {cy : Nat → ClassId} {ad : Nat → Nat} {E : Nat → Nat → Nat} {G : va_G} {Z : vZ} {sa : Nat → Nat} (zk : Zk Z E) (zy : Zy Z E sa) (σ : Sm) (hw : wfc σ) (o : Int) (h : f_X12_refundedCoins σ = some o) : CzI Z l yX12_refundedCoins cX12_refundedCoins 1 (some .int) rm_X12_refundedCoins (wlc cy ad E) wfc G (tyc cy) [.ref (ad 0)] σ σ o := by
  refine czI_of zk.1 (plainFor_of_name (by decide)) (Nat.le_of_ble_eq_true rfl) hw (σ, o) o h (fun X Y v => EndI X Y cX12_refundedCoins rm_X12_refundedCoins .int (σ, v)) (fun _ _ h => h) (fun X A Q hZ hX C => ?_)
  replace C : Cx X (Yc cy ad E G A 1 Q) cX12_refundedCoins RX12 (some .int) rm_X12_refundedCoins (tyc cy) := C
  replace hZ : Zx Z X (Yc cy ad E G A 1 Q) := hZ
  show T X (Yc cy ad E G A 1 Q) (fun v => EndI X (Yc cy ad E G A 1 Q) cX12_refundedCoins rm_X12_refundedCoins .int (σ, v)) 0 0 0 [(0, .ref (ad 0))] [] σ (f_X12_refundedCoins σ)
  unfold f_X12_refundedCoins
  refine T_aload_n (pc := 0) C dX12_refundedCoins_0 rfl 0 rfl ?_
  refine Tc_getr (pc := 1) C 0 12 0 13 (rfl : kd 0 = 12) (by decide) (fun _ => rfl) rfl inX12 (by decide) (v := .ref (ad 1)) rfl kx_84 dX12_refundedCoins_1 ?_
  refine Tc_getr (pc := 4) C 1 8 9 10 (rfl : kd 1 = 8) (by decide) (fun _ => rfl) rfl inX8 (by decide) (v := .ref (ad 6)) rfl kx_132 dX12_refundedCoins_4 ?_
  refine Tc_geti (pc := 7) C 6 11 4 6 (kd_8 (rfl : kd 1 = 8)).2.2.2.2.1 (by decide) (fun _ => rfl) rfl inX11 (by decide) rfl kx_254 dX12_refundedCoins_7 (fun z1 => ?_)
  exact T_iret (pc := 10) (σ 6 4) (fun h9 => h9) z1 (nar_I _) (by decide) dX12_refundedCoins_10

abbrev rm_X12_usedTickets : Room := ⟨1, 0, 0, 20⟩
theorem cm_X12_usedTickets : cmV yX12_usedTickets cX12_usedTickets 1 (some .int) 0 := ⟨kx_45, kx_82, ⟨by decide +kernel, by decide +kernel, by decide +kernel⟩, kx_258, kx_259⟩
def f_X12_usedTickets (σ : Sm) : Option Int :=
  some (σ 6 5)
theorem ct_X12_usedTickets {l : Launch} {cy : Nat → ClassId} {ad : Nat → Nat} {E : Nat → Nat → Nat} {G : va_G} {Z : vZ} {sa : Nat → Nat} (zk : Zk Z E) (zy : Zy Z E sa) (σ : Sm) (hw : wfc σ) (o : Int) (h : f_X12_usedTickets σ = some o) : CzI Z l yX12_usedTickets cX12_usedTickets 1 (some .int) rm_X12_usedTickets (wlc cy ad E) wfc G (tyc cy) [.ref (ad 0)] σ σ o := by
  refine czI_of zk.1 (plainFor_of_name (by decide)) (Nat.le_of_ble_eq_true rfl) hw (σ, o) o h (fun X Y v => EndI X Y cX12_usedTickets rm_X12_usedTickets .int (σ, v)) (fun _ _ h => h) (fun X A Q hZ hX C => ?_)
  replace C : Cx X (Yc cy ad E G A 1 Q) cX12_usedTickets RX12 (some .int) rm_X12_usedTickets (tyc cy) := C
  replace hZ : Zx Z X (Yc cy ad E G A 1 Q) := hZ
  show T X (Yc cy ad E G A 1 Q) (fun v => EndI X (Yc cy ad E G A 1 Q) cX12_usedTickets rm_X12_usedTickets .int (σ, v)) 0 0 0 [(0, .ref (ad 0))] [] σ (f_X12_usedTickets σ)
  unfold f_X12_usedTickets
  refine T_aload_n (pc := 0) C dX12_usedTickets_0 rfl 0 rfl ?_
  refine Tc_getr (pc := 1) C 0 12 0 13 (rfl : kd 0 = 12) (by decide) (fun _ => rfl) rfl inX12 (by decide) (v := .ref (ad 1)) rfl kx_84 dX12_usedTickets_1 ?_
  refine Tc_getr (pc := 4) C 1 8 9 10 (rfl : kd 1 = 8) (by decide) (fun _ => rfl) rfl inX8 (by decide) (v := .ref (ad 6)) rfl kx_132 dX12_usedTickets_4 ?_
  refine Tc_geti (pc := 7) C 6 11 5 6 (kd_8 (rfl : kd 1 = 8)).2.2.2.2.1 (by decide) (fun _ => rfl) rfl inX11 (by decide) rfl kx_257 dX12_usedTickets_7 (fun z1 => ?_)
  exact T_iret (pc := 10) (σ 6 5) (fun h9 => h9) z1 (nar_I _) (by decide) dX12_usedTickets_10

abbrev rm_X12_lineByTickets : Room := ⟨6, 1, 6, 82⟩
theorem cm_X12_lineByTickets : cmV yX12_lineByTickets cX12_lineByTickets 3 (some .int) 1 := ⟨kx_46, kx_82, ⟨by decide +kernel, by decide +kernel, by decide +kernel⟩, kx_261, kx_262⟩
def f_X12_lineByTickets (N : Nat) (σ : Sm) (x1 : Int) : Option (So Sm) :=
  (f_X8_lineOfRank N σ 1 x1).bind fun v1 => (if v1 = (-1) then some (σ, 4, 0) else some (σ, 0, v1))
theorem ct_X12_lineByTickets {l : Launch} {cy : Nat → ClassId} {ad : Nat → Nat} {E : Nat → Nat → Nat} {G : va_G} {Z : vZ} {sa : Nat → Nat} (zk : Zk Z E) (zy : Zy Z E sa) (hst : l.stackTraces = false) (N : Nat) (σ : Sm) (x1 : Int) (h1 : rng x1) (hw : wfc σ) (o : So Sm) (h : f_X12_lineByTickets N σ x1 = some o) : CxI Z l yX12_lineByTickets cX12_lineByTickets 3 (some .int) rm_X12_lineByTickets (wlc cy ad E) wfc G (tyc cy) [.ref (ad 0), vi x1] σ o := by
  refine cxI_of zk.1 zy.1 hst (by decide) (Nat.le_of_ble_eq_true rfl) hw o h (fun X A Q hZ hX C => ?_)
  replace hst : X.2.1.stackTraces = false := by rw [hX]; exact hst
  replace C : Cx X (Yc cy ad E G A 3 Q) cX12_lineByTickets RX12 (some .int) rm_X12_lineByTickets (tyc cy) := C
  replace hZ : Zx Z X (Yc cy ad E G A 3 Q) := hZ
  show T X (Yc cy ad E G A 3 Q) (fun w => EndXI X (Yc cy ad E G A 3 Q) cX12_lineByTickets rm_X12_lineByTickets .int w ∧ EndX X (Yc cy ad E G A 3 Q) cX12_lineByTickets RX12 rm_X12_lineByTickets w) 0 0 0 [(0, .ref (ad 0)), (1, vi x1)] [] σ (f_X12_lineByTickets N σ x1)
  unfold f_X12_lineByTickets
  refine T_aload_n (pc := 0) C dX12_lineByTickets_0 rfl 0 rfl ?_
  refine Tc_getr (pc := 1) C 0 12 0 13 (rfl : kd 0 = 12) (by decide) (fun _ => rfl) rfl inX12 (by decide) (v := .ref (ad 1)) rfl kx_84 dX12_lineByTickets_1 ?_
  refine T_iload_n (pc := 4) C dX12_lineByTickets_4 rfl 1 rfl ?_
  refine T_czVip (pc := 5) zk.1 hZ C [vi x1] [] (fun o h9 hw => ct_X8_lineOfRank zk N σ 1 x1 (rfl : kd 1 = 8) h1 hw o h9) kx_260 cm_X8_lineOfRank (rcc (rfl : kd 1 = 8) (by decide) (fun _ => rfl) rfl) rfl rfl (Nat.le_of_ble_eq_true rfl) (by decide) (a' := 0) (b' := 0) ⟨rfl, rfl⟩ dX12_lineByTickets_5 (fun v1 hv1 => ?_)
  refine T_istore_n (pc := 8) (L' := [(2, vi v1), (0, .ref (ad 0)), (1, vi x1)]) C dX12_lineByTickets_8 rfl (Nat.le_of_ble_eq_true rfl) rfl ?_
  refine T_iload_n (pc := 9) C dX12_lineByTickets_9 rfl 0 rfl ?_
  refine T_iconst (pc := 10) C dX12_lineByTickets_10 ?_
  refine T_icmp_ne (pc := 11) C 25 dX12_lineByTickets_11 rfl hv1.1 (rngL rfl) (fun c2 => ?_) (fun c2 => ?_)
  · refine T_iload_n (pc := 25) C dX12_lineByTickets_25 rfl 0 rfl ?_
    exact T_xiret (pc := 26) (σ, 0, v1) (σ, 0, v1) rfl (fun h9 => h9.1) hv1.1 (nar_I _) (by decide) dX12_lineByTickets_26
  · exact T_throwN (pc := 14) (σ, 4, 0) (fun h9 => h9.2) (sa 340) "no such rank" kx_78 kx_79 (zy.2.1 _ _ _ hZ (340, "no such rank") (List.mem_of_getElem? (i := 9) rfl)) (xn_at zy hZ xa_3) (by decide) (by decide) (by decide) dX12_lineByTickets_14 dX12_lineByTickets_17 (Or.inr ⟨dX12_lineByTickets_18, dX12_lineByTickets_21, dX12_lineByTickets_24⟩)

abbrev rm_X12_stopByLines : Room := ⟨6, 1, 6, 93⟩
theorem cm_X12_stopByLines : cmV yX12_stopByLines cX12_stopByLines 3 (some .int) 1 := ⟨kx_47, kx_82, ⟨by decide +kernel, by decide +kernel, by decide +kernel⟩, kx_264, kx_265⟩
def f_X12_stopByLines (N : Nat) (σ : Sm) (x1 : Int) : Option (So Sm) :=
  (f_X8_stopOfRank N σ 1 x1).bind fun v1 => (if v1 = (-1) then some (σ, 4, 0) else some (σ, 0, v1))
theorem ct_X12_stopByLines {l : Launch} {cy : Nat → ClassId} {ad : Nat → Nat} {E : Nat → Nat → Nat} {G : va_G} {Z : vZ} {sa : Nat → Nat} (zk : Zk Z E) (zy : Zy Z E sa) (hst : l.stackTraces = false) (N : Nat) (σ : Sm) (x1 : Int) (h1 : rng x1) (hw : wfc σ) (o : So Sm) (h : f_X12_stopByLines N σ x1 = some o) : CxI Z l yX12_stopByLines cX12_stopByLines 3 (some .int) rm_X12_stopByLines (wlc cy ad E) wfc G (tyc cy) [.ref (ad 0), vi x1] σ o := by
  refine cxI_of zk.1 zy.1 hst (by decide) (Nat.le_of_ble_eq_true rfl) hw o h (fun X A Q hZ hX C => ?_)
  replace hst : X.2.1.stackTraces = false := by rw [hX]; exact hst
  replace C : Cx X (Yc cy ad E G A 3 Q) cX12_stopByLines RX12 (some .int) rm_X12_stopByLines (tyc cy) := C
  replace hZ : Zx Z X (Yc cy ad E G A 3 Q) := hZ
  show T X (Yc cy ad E G A 3 Q) (fun w => EndXI X (Yc cy ad E G A 3 Q) cX12_stopByLines rm_X12_stopByLines .int w ∧ EndX X (Yc cy ad E G A 3 Q) cX12_stopByLines RX12 rm_X12_stopByLines w) 0 0 0 [(0, .ref (ad 0)), (1, vi x1)] [] σ (f_X12_stopByLines N σ x1)
  unfold f_X12_stopByLines
  refine T_aload_n (pc := 0) C dX12_stopByLines_0 rfl 0 rfl ?_
  refine Tc_getr (pc := 1) C 0 12 0 13 (rfl : kd 0 = 12) (by decide) (fun _ => rfl) rfl inX12 (by decide) (v := .ref (ad 1)) rfl kx_84 dX12_stopByLines_1 ?_
  refine T_iload_n (pc := 4) C dX12_stopByLines_4 rfl 1 rfl ?_
  refine T_czVip (pc := 5) zk.1 hZ C [vi x1] [] (fun o h9 hw => ct_X8_stopOfRank zk N σ 1 x1 (rfl : kd 1 = 8) h1 hw o h9) kx_263 cm_X8_stopOfRank (rcc (rfl : kd 1 = 8) (by decide) (fun _ => rfl) rfl) rfl rfl (Nat.le_of_ble_eq_true rfl) (by decide) (a' := 0) (b' := 0) ⟨rfl, rfl⟩ dX12_stopByLines_5 (fun v1 hv1 => ?_)
  refine T_istore_n (pc := 8) (L' := [(2, vi v1), (0, .ref (ad 0)), (1, vi x1)]) C dX12_stopByLines_8 rfl (Nat.le_of_ble_eq_true rfl) rfl ?_
  refine T_iload_n (pc := 9) C dX12_stopByLines_9 rfl 0 rfl ?_
  refine T_iconst (pc := 10) C dX12_stopByLines_10 ?_
  refine T_icmp_ne (pc := 11) C 25 dX12_stopByLines_11 rfl hv1.1 (rngL rfl) (fun c2 => ?_) (fun c2 => ?_)
  · refine T_iload_n (pc := 25) C dX12_stopByLines_25 rfl 0 rfl ?_
    exact T_xiret (pc := 26) (σ, 0, v1) (σ, 0, v1) rfl (fun h9 => h9.1) hv1.1 (nar_I _) (by decide) dX12_stopByLines_26
  · exact T_throwN (pc := 14) (σ, 4, 0) (fun h9 => h9.2) (sa 340) "no such rank" kx_78 kx_79 (zy.2.1 _ _ _ hZ (340, "no such rank") (List.mem_of_getElem? (i := 9) rfl)) (xn_at zy hZ xa_3) (by decide) (by decide) (by decide) dX12_stopByLines_14 dX12_stopByLines_17 (Or.inr ⟨dX12_stopByLines_18, dX12_stopByLines_21, dX12_stopByLines_24⟩)

abbrev rm_X12_flowsAgree : Room := ⟨3, 0, 0, 76⟩
theorem cm_X12_flowsAgree : cmV yX12_flowsAgree cX12_flowsAgree 2 (some .boolean) 0 := ⟨kx_62, kx_82, ⟨by decide +kernel, by decide +kernel, by decide +kernel⟩, kx_266, kx_267⟩
def f_X12_flowsAgree_2 (N : Nat) : Nat → Sm → Int → Option ((Sm × Int) ⊕ Sm)
  | 0, _, _ => none
  | n + 1, s0, x1 => (if (s0 1 2) ≤ x1 then some (.inr s0) else (f_X5_greatest N s0 379 1 0 x1).bind fun v8 => (f_X5_leastCut N v8.1 379 1 0 x1).bind fun v9 => (if v8.2 = v9.2 then f_X12_flowsAgree_2 N n v9.1 (x1 + 1) else some (.inl (v9.1, 0))))
theorem lp_X12_flowsAgree_2 {X : vjX} {A : Nat → Prop} {Q : State → Prop} {cy : Nat → ClassId} {ad : Nat → Nat} {E : Nat → Nat → Nat} {G : va_G} {Z : vZ} {sa : Nat → Nat} (zk : Zk Z E) (zy : Zy Z E sa) (hZ : Zx Z X (Yc cy ad E G A 2 Q)) (C : Cx X (Yc cy ad E G A 2 Q) cX12_flowsAgree RX12 (some .boolean) rm_X12_flowsAgree (tyc cy)) (N : Nat) : ∀ (n : Nat) (s0 : Sm) (x1 : Int) (h1 : rng x1), T X (Yc cy ad E G A 2 Q) (Sum.elim (fun w => EndI X (Yc cy ad E G A 2 Q) cX12_flowsAgree rm_X12_flowsAgree .boolean w) (fun (q : Sm) => True → J X (Yc cy ad E G A 2 Q) 0 0 50 [] [] q)) 0 0 2 [(0, .ref (ad 0)), (1, vi x1)] [] s0 (f_X12_flowsAgree_2 N n s0 x1) := by
  intro n
  induction n with
  | zero => intro s0 x1 h1; exact T_none
  | succ n ih =>
    intro s0 x1 h1
    rw [f_X12_flowsAgree_2]
    refine T_iload_n (pc := 2) C dX12_flowsAgree_2 rfl 1 rfl ?_
    refine T_aload_n (pc := 3) C dX12_flowsAgree_3 rfl 0 rfl ?_
    refine Tc_getr (pc := 4) C 0 12 0 13 (rfl : kd 0 = 12) (by decide) (fun _ => rfl) rfl inX12 (by decide) (v := .ref (ad 1)) rfl kx_84 dX12_flowsAgree_4 ?_
    refine Tc_geti (pc := 7) C 1 8 2 10 (rfl : kd 1 = 8) (by decide) (fun _ => rfl) rfl inX8 (by decide) rfl kx_149 dX12_flowsAgree_7 (fun z6 => ?_)
    refine T_icmp_ge (pc := 10) C 50 dX12_flowsAgree_10 rfl h1 z6.1 (fun c7 => ?_) (fun c7 => ?_)
    · refine T_sub (L' := []) [] rfl ?_
      exact T_exit (fun h9 => h9 trivial)
    · refine T_aload_n (pc := 13) C dX12_flowsAgree_13 rfl 0 rfl ?_
      refine Tc_getr (pc := 14) C 0 12 8 13 (rfl : kd 0 = 12) (by decide) (fun _ => rfl) rfl inX12 (by decide) (v := .ref (ad 379)) rfl kx_215 dX12_flowsAgree_14 ?_
      refine T_aload_n (pc := 17) C dX12_flowsAgree_17 rfl 0 rfl ?_
      refine Tc_getr (pc := 18) C 0 12 0 13 (rfl : kd 0 = 12) (by decide) (fun _ => rfl) rfl inX12 (by decide) (v := .ref (ad 1)) rfl kx_84 dX12_flowsAgree_18 ?_
      refine T_iconst (pc := 21) C dX12_flowsAgree_21 ?_
      refine T_iload_n (pc := 22) C dX12_flowsAgree_22 rfl 1 rfl ?_
      refine T_czVi (pc := 23) zk.1 hZ C [.ref (ad 1), vi 0, vi x1] [] (fun o h9 hw => ct_X5_greatest zk N s0 379 1 0 x1 (rfl : kd 379 = 5) (rfl : kd 1 = 8) (rngL rfl) h1 hw o h9) kx_216 cm_X5_greatest (rcc (rfl : kd 379 = 5) (by decide) (fun _ => rfl) rfl) rfl rfl (Nat.le_of_ble_eq_true rfl) (by decide) (a' := 0) (b' := 0) ⟨rfl, rfl⟩ dX12_flowsAgree_23 (fun v8 hv8 => ?_)
      refine T_aload_n (pc := 26) C dX12_flowsAgree_26 rfl 0 rfl ?_
      refine Tc_getr (pc := 27) C 0 12 8 13 (rfl : kd 0 = 12) (by decide) (fun _ => rfl) rfl inX12 (by decide) (v := .ref (ad 379)) rfl kx_215 dX12_flowsAgree_27 ?_
      refine T_aload_n (pc := 30) C dX12_flowsAgree_30 rfl 0 rfl ?_
      refine Tc_getr (pc := 31) C 0 12 0 13 (rfl : kd 0 = 12) (by decide) (fun _ => rfl) rfl inX12 (by decide) (v := .ref (ad 1)) rfl kx_84 dX12_flowsAgree_31 ?_
      refine T_iconst (pc := 34) C dX12_flowsAgree_34 ?_
      refine T_iload_n (pc := 35) C dX12_flowsAgree_35 rfl 1 rfl ?_
      refine T_czVi (pc := 36) zk.1 hZ C [.ref (ad 1), vi 0, vi x1] [vi v8.2] (fun o h9 hw => ct_X5_leastCut zk N v8.1 379 1 0 x1 (rfl : kd 379 = 5) (rfl : kd 1 = 8) (rngL rfl) h1 hw o h9) kx_219 cm_X5_leastCut (rcc (rfl : kd 379 = 5) (by decide) (fun _ => rfl) rfl) rfl rfl (Nat.le_of_ble_eq_true rfl) (by decide) (a' := 0) (b' := 0) ⟨rfl, rfl⟩ dX12_flowsAgree_36 (fun v9 hv9 => ?_)
      refine T_icmp_eq (pc := 39) C 44 dX12_flowsAgree_39 rfl hv8.1 hv9.1 (fun c10 => ?_) (fun c10 => ?_)
      · refine T_iinc (pc := 44) (L' := [(1, vi (x1 + 1)), (0, .ref (ad 0))]) C dX12_flowsAgree_44 (Nat.le_of_ble_eq_true rfl) 1 rfl rfl ?_
        refine T_goto (pc := 47) C 2 dX12_flowsAgree_47 rfl ?_
        refine T_sub (L' := [(0, .ref (ad 0)), (1, vi (x1 + 1))]) [1, 0] rfl ?_
        exact ih v9.1 (x1 + 1) (rng_inc c7 h1 z6.1)
      · refine T_iconst (pc := 42) C dX12_flowsAgree_42 ?_
        exact T_iret (pc := 43) (Sum.inl (v9.1, 0)) (fun h9 => h9) (rngL rfl) (nar_Z (Or.inl rfl)) (by decide) dX12_flowsAgree_43
def f_X12_flowsAgree (N : Nat) (σ : Sm) : Option (Sm × Int) :=
  (f_X12_flowsAgree_2 N N σ 1).bind (Sum.elim (fun v => some v) fun q11 => some (q11, 1))
theorem ct_X12_flowsAgree {l : Launch} {cy : Nat → ClassId} {ad : Nat → Nat} {E : Nat → Nat → Nat} {G : va_G} {Z : vZ} {sa : Nat → Nat} (zk : Zk Z E) (zy : Zy Z E sa) (N : Nat) (σ : Sm) (hw : wfc σ) (o : Sm × Int) (h : f_X12_flowsAgree N σ = some o) : CzI Z l yX12_flowsAgree cX12_flowsAgree 2 (some .boolean) rm_X12_flowsAgree (wlc cy ad E) wfc G (tyc cy) [.ref (ad 0)] σ o.1 o.2 := by
  refine czI_of zk.1 (plainFor_of_name (by decide)) (Nat.le_of_ble_eq_true rfl) hw o o h (fun X Y w => EndI X Y cX12_flowsAgree rm_X12_flowsAgree .boolean w) (fun _ _ h => h) (fun X A Q hZ hX C => ?_)
  replace C : Cx X (Yc cy ad E G A 2 Q) cX12_flowsAgree RX12 (some .boolean) rm_X12_flowsAgree (tyc cy) := C
  replace hZ : Zx Z X (Yc cy ad E G A 2 Q) := hZ
  show T X (Yc cy ad E G A 2 Q) (fun w => EndI X (Yc cy ad E G A 2 Q) cX12_flowsAgree rm_X12_flowsAgree .boolean w) 0 0 0 [(0, .ref (ad 0))] [] σ (f_X12_flowsAgree N σ)
  unfold f_X12_flowsAgree
  refine T_iconst (pc := 0) C dX12_flowsAgree_0 ?_
  refine T_istore_n (pc := 1) (L' := [(1, vi 1), (0, .ref (ad 0))]) C dX12_flowsAgree_1 rfl (Nat.le_of_ble_eq_true rfl) rfl ?_
  refine T_sub (L' := [(0, .ref (ad 0)), (1, vi 1)]) [1, 0] rfl ?_
  refine T_loopS (g := fun v => v) (lp_X12_flowsAgree_2 zk zy hZ C N N σ 1 (rngL rfl)) (fun v h9 => h9) (fun q11 hq11 => ?_)
  refine T_iconst (pc := 50) C dX12_flowsAgree_50 ?_
  exact T_iret (pc := 51) (q11, 1) (fun h9 => h9) (rngL rfl) (nar_Z (Or.inr rfl)) (by decide) dX12_flowsAgree_51

abbrev rm_X12_journeysAgree : Room := ⟨5, 0, 0, 128⟩
theorem cm_X12_journeysAgree : cmV yX12_journeysAgree cX12_journeysAgree 2 (some .boolean) 0 := ⟨kx_61, kx_82, ⟨by decide +kernel, by decide +kernel, by decide +kernel⟩, kx_268, kx_269⟩
def f_X12_journeysAgree_75 (σ : Sm) : Nat → Int → Option ((Sm × Int) ⊕ Unit)
  | 0, _ => none
  | n + 1, x1 => (if (σ 1 2) ≤ x1 then some (.inr ()) else if 0 ≤ x1 ∧ x1 < 10 then (if (σ 367 x1.toNat) = (σ 372 x1.toNat) then (f_X2_tableEntry σ 376 0 x1).bind fun v25 => (if (σ 377 x1.toNat) = v25 then f_X12_journeysAgree_75 σ n (x1 + 1) else some (.inl (σ, 0))) else some (.inl (σ, 0))) else none)
theorem lp_X12_journeysAgree_75 {X : vjX} {A : Nat → Prop} {Q : State → Prop} {cy : Nat → ClassId} {ad : Nat → Nat} {E : Nat → Nat → Nat} {G : va_G} {Z : vZ} {sa : Nat → Nat} (zk : Zk Z E) (zy : Zy Z E sa) (hZ : Zx Z X (Yc cy ad E G A 2 Q)) (C : Cx X (Yc cy ad E G A 2 Q) cX12_journeysAgree RX12 (some .boolean) rm_X12_journeysAgree (tyc cy)) (σ : Sm) : ∀ (n : Nat) (x1 : Int) (h1 : rng x1), T X (Yc cy ad E G A 2 Q) (Sum.elim (fun w => EndI X (Yc cy ad E G A 2 Q) cX12_journeysAgree rm_X12_journeysAgree .boolean w) (fun (q : Unit) => True → J X (Yc cy ad E G A 2 Q) 0 0 136 [] [] σ)) 0 0 75 [(0, .ref (ad 0)), (1, vi x1)] [] σ (f_X12_journeysAgree_75 σ n x1) := by
  intro n
  induction n with
  | zero => intro x1 h1; exact T_none
  | succ n ih =>
    intro x1 h1
    rw [f_X12_journeysAgree_75]
    refine T_iload_n (pc := 75) C dX12_journeysAgree_75 rfl 1 rfl ?_
    refine T_aload_n (pc := 76) C dX12_journeysAgree_76 rfl 0 rfl ?_
    refine Tc_getr (pc := 77) C 0 12 0 13 (rfl : kd 0 = 12) (by decide) (fun _ => rfl) rfl inX12 (by decide) (v := .ref (ad 1)) rfl kx_84 dX12_journeysAgree_77 ?_
    refine Tc_geti (pc := 80) C 1 8 2 10 (rfl : kd 1 = 8) (by decide) (fun _ => rfl) rfl inX8 (by decide) rfl kx_149 dX12_journeysAgree_80 (fun z18 => ?_)
    refine T_icmp_ge (pc := 83) C 136 dX12_journeysAgree_83 rfl h1 z18.1 (fun c19 => ?_) (fun c19 => ?_)
    · refine T_sub (L' := []) [] rfl ?_
      exact T_exit (fun h9 => h9 trivial)
    · refine T_aload_n (pc := 86) C dX12_journeysAgree_86 rfl 0 rfl ?_
      refine Tc_getr (pc := 87) C 0 12 5 13 (rfl : kd 0 = 12) (by decide) (fun _ => rfl) rfl inX12 (by decide) (v := .ref (ad 366)) rfl kx_194 dX12_journeysAgree_87 ?_
      refine Tc_getr (pc := 90) C 366 1 0 4 (rfl : kd 366 = 1) (by decide) (fun _ => rfl) rfl inX1 (by decide) (v := .ref (ad 367)) rfl kx_196 dX12_journeysAgree_90 ?_
      refine T_iload_n (pc := 93) C dX12_journeysAgree_93 rfl 1 rfl ?_
      refine T_guard (fun g20 => ?_)
      refine Tc_iald (pc := 94) C 367 20 10 x1.toNat (kd_1 (rfl : kd 366 = 1)).1 ⟨by decide, by decide⟩ rfl g20 rfl dX12_journeysAgree_94 (fun z21 => ?_)
      refine T_aload_n (pc := 95) C dX12_journeysAgree_95 rfl 0 rfl ?_
      refine Tc_getr (pc := 96) C 0 12 6 13 (rfl : kd 0 = 12) (by decide) (fun _ => rfl) rfl inX12 (by decide) (v := .ref (ad 371)) rfl kx_200 dX12_journeysAgree_96 ?_
      refine Tc_getr (pc := 99) C 371 1 0 4 (rfl : kd 371 = 1) (by decide) (fun _ => rfl) rfl inX1 (by decide) (v := .ref (ad 372)) rfl kx_196 dX12_journeysAgree_99 ?_
      refine T_iload_n (pc := 102) C dX12_journeysAgree_102 rfl 1 rfl ?_
      refine Tc_iald (pc := 103) C 372 20 10 x1.toNat (kd_1 (rfl : kd 371 = 1)).1 ⟨by decide, by decide⟩ rfl g20 rfl dX12_journeysAgree_103 (fun z22 => ?_)
      refine T_icmp_ne (pc := 104) C 128 dX12_journeysAgree_104 rfl z21 z22 (fun c23 => ?_) (fun c23 => ?_)
      · refine T_iconst (pc := 128) C dX12_journeysAgree_128 ?_
        exact T_iret (pc := 129) (Sum.inl (σ, 0)) (fun h9 => h9) (rngL rfl) (nar_Z (Or.inl rfl)) (by decide) dX12_journeysAgree_129
      · refine T_aload_n (pc := 107) C dX12_journeysAgree_107 rfl 0 rfl ?_
        refine Tc_getr (pc := 108) C 0 12 7 13 (rfl : kd 0 = 12) (by decide) (fun _ => rfl) rfl inX12 (by decide) (v := .ref (ad 376)) rfl kx_205 dX12_journeysAgree_108 ?_
        refine Tc_getr (pc := 111) C 376 2 0 2 (rfl : kd 376 = 2) (by decide) (fun _ => rfl) rfl inX2 (by decide) (v := .ref (ad 377)) rfl kx_207 dX12_journeysAgree_111 ?_
        refine T_iload_n (pc := 114) C dX12_journeysAgree_114 rfl 1 rfl ?_
        refine Tc_iald (pc := 115) C 377 20 10 x1.toNat (kd_2 (rfl : kd 376 = 2)).1 ⟨by decide, by decide⟩ rfl g20 rfl dX12_journeysAgree_115 (fun z24 => ?_)
        refine T_aload_n (pc := 116) C dX12_journeysAgree_116 rfl 0 rfl ?_
        refine Tc_getr (pc := 117) C 0 12 7 13 (rfl : kd 0 = 12) (by decide) (fun _ => rfl) rfl inX12 (by decide) (v := .ref (ad 376)) rfl kx_205 dX12_journeysAgree_117 ?_
        refine T_iconst (pc := 120) C dX12_journeysAgree_120 ?_
        refine T_iload_n (pc := 121) C dX12_journeysAgree_121 rfl 1 rfl ?_
        refine T_czVip (pc := 122) zk.1 hZ C [vi 0, vi x1] [vi (σ 377 x1.toNat)] (fun o h9 hw => ct_X2_tableEntry zk σ 376 0 x1 (rfl : kd 376 = 2) (rngL rfl) h1 hw o h9) kx_211 cm_X2_tableEntry (rcc (rfl : kd 376 = 2) (by decide) (fun _ => rfl) rfl) rfl rfl (Nat.le_of_ble_eq_true rfl) (by decide) (a' := 0) (b' := 0) ⟨rfl, rfl⟩ dX12_journeysAgree_122 (fun v25 hv25 => ?_)
        refine T_icmp_eq (pc := 125) C 130 dX12_journeysAgree_125 rfl z24 hv25.1 (fun c26 => ?_) (fun c26 => ?_)
        · refine T_iinc (pc := 130) (L' := [(1, vi (x1 + 1)), (0, .ref (ad 0))]) C dX12_journeysAgree_130 (Nat.le_of_ble_eq_true rfl) 1 rfl rfl ?_
          refine T_goto (pc := 133) C 75 dX12_journeysAgree_133 rfl ?_
          refine T_sub (L' := [(0, .ref (ad 0)), (1, vi (x1 + 1))]) [1, 0] rfl ?_
          exact ih (x1 + 1) (rng_inc c19 h1 z18.1)
        · refine T_iconst (pc := 128) C dX12_journeysAgree_128 ?_
          exact T_iret (pc := 129) (Sum.inl (σ, 0)) (fun h9 => h9) (rngL rfl) (nar_Z (Or.inl rfl)) (by decide) dX12_journeysAgree_129
def f_X12_journeysAgree (N : Nat) (σ : Sm) : Option (Sm × Int) :=
  (if (σ 1 2) = 0 then some (σ, 1) else (f_X1_searchEarliest N σ 366 1 0 (σ 1 0)).bind fun s4 => (f_X1_searchRounds N s4 371 1 0 (s4 1 0)).bind fun s6 => (f_X2_searchRounds N s6 376 1 0).bind fun s7 => (f_X2_fillTable N s7 376 1).bind fun s8 => (f_X12_journeysAgree_75 s8 N 1).bind (Sum.elim (fun v => some v) fun q27 => some (s8, 1)))
theorem ct_X12_journeysAgree {l : Launch} {cy : Nat → ClassId} {ad : Nat → Nat} {E : Nat → Nat → Nat} {G : va_G} {Z : vZ} {sa : Nat → Nat} (zk : Zk Z E) (zy : Zy Z E sa) (N : Nat) (σ : Sm) (hw : wfc σ) (o : Sm × Int) (h : f_X12_journeysAgree N σ = some o) : CzI Z l yX12_journeysAgree cX12_journeysAgree 2 (some .boolean) rm_X12_journeysAgree (wlc cy ad E) wfc G (tyc cy) [.ref (ad 0)] σ o.1 o.2 := by
  refine czI_of zk.1 (plainFor_of_name (by decide)) (Nat.le_of_ble_eq_true rfl) hw o o h (fun X Y w => EndI X Y cX12_journeysAgree rm_X12_journeysAgree .boolean w) (fun _ _ h => h) (fun X A Q hZ hX C => ?_)
  replace C : Cx X (Yc cy ad E G A 2 Q) cX12_journeysAgree RX12 (some .boolean) rm_X12_journeysAgree (tyc cy) := C
  replace hZ : Zx Z X (Yc cy ad E G A 2 Q) := hZ
  show T X (Yc cy ad E G A 2 Q) (fun w => EndI X (Yc cy ad E G A 2 Q) cX12_journeysAgree rm_X12_journeysAgree .boolean w) 0 0 0 [(0, .ref (ad 0))] [] σ (f_X12_journeysAgree N σ)
  unfold f_X12_journeysAgree
  refine T_aload_n (pc := 0) C dX12_journeysAgree_0 rfl 0 rfl ?_
  refine Tc_getr (pc := 1) C 0 12 0 13 (rfl : kd 0 = 12) (by decide) (fun _ => rfl) rfl inX12 (by decide) (v := .ref (ad 1)) rfl kx_84 dX12_journeysAgree_1 ?_
  refine Tc_geti (pc := 4) C 1 8 2 10 (rfl : kd 1 = 8) (by decide) (fun _ => rfl) rfl inX8 (by decide) rfl kx_149 dX12_journeysAgree_4 (fun z1 => ?_)
  refine T_if_ne (pc := 7) C 12 dX12_journeysAgree_7 rfl z1.1 (fun c2 => ?_) (fun c2 => ?_)
  · refine T_aload_n (pc := 12) C dX12_journeysAgree_12 rfl 0 rfl ?_
    refine Tc_getr (pc := 13) C 0 12 5 13 (rfl : kd 0 = 12) (by decide) (fun _ => rfl) rfl inX12 (by decide) (v := .ref (ad 366)) rfl kx_194 dX12_journeysAgree_13 ?_
    refine T_aload_n (pc := 16) C dX12_journeysAgree_16 rfl 0 rfl ?_
    refine Tc_getr (pc := 17) C 0 12 0 13 (rfl : kd 0 = 12) (by decide) (fun _ => rfl) rfl inX12 (by decide) (v := .ref (ad 1)) rfl kx_84 dX12_journeysAgree_17 ?_
    refine T_iconst (pc := 20) C dX12_journeysAgree_20 ?_
    refine T_aload_n (pc := 21) C dX12_journeysAgree_21 rfl 0 rfl ?_
    refine Tc_getr (pc := 22) C 0 12 0 13 (rfl : kd 0 = 12) (by decide) (fun _ => rfl) rfl inX12 (by decide) (v := .ref (ad 1)) rfl kx_84 dX12_journeysAgree_22 ?_
    refine Tc_geti (pc := 25) C 1 8 0 10 (rfl : kd 1 = 8) (by decide) (fun _ => rfl) rfl inX8 (by decide) rfl kx_144 dX12_journeysAgree_25 (fun z3 => ?_)
    refine T_czVv (pc := 28) zk.1 hZ C [.ref (ad 1), vi 0, vi (σ 1 0)] [] (fun o h9 hw => ct_X1_searchEarliest zk N σ 366 1 0 (σ 1 0) (rfl : kd 366 = 1) (rfl : kd 1 = 8) (rngL rfl) z3.1 hw o h9) kx_195 cm_X1_searchEarliest (rcc (rfl : kd 366 = 1) (by decide) (fun _ => rfl) rfl) rfl rfl (Nat.le_of_ble_eq_true rfl) (by decide) (a' := 0) (b' := 0) ⟨rfl, rfl⟩ dX12_journeysAgree_28 (fun s4 => ?_)
    refine T_aload_n (pc := 31) C dX12_journeysAgree_31 rfl 0 rfl ?_
    refine Tc_getr (pc := 32) C 0 12 6 13 (rfl : kd 0 = 12) (by decide) (fun _ => rfl) rfl inX12 (by decide) (v := .ref (ad 371)) rfl kx_200 dX12_journeysAgree_32 ?_
    refine T_aload_n (pc := 35) C dX12_journeysAgree_35 rfl 0 rfl ?_
    refine Tc_getr (pc := 36) C 0 12 0 13 (rfl : kd 0 = 12) (by decide) (fun _ => rfl) rfl inX12 (by decide) (v := .ref (ad 1)) rfl kx_84 dX12_journeysAgree_36 ?_
    refine T_iconst (pc := 39) C dX12_journeysAgree_39 ?_
    refine T_aload_n (pc := 40) C dX12_journeysAgree_40 rfl 0 rfl ?_
    refine Tc_getr (pc := 41) C 0 12 0 13 (rfl : kd 0 = 12) (by decide) (fun _ => rfl) rfl inX12 (by decide) (v := .ref (ad 1)) rfl kx_84 dX12_journeysAgree_41 ?_
    refine Tc_geti (pc := 44) C 1 8 0 10 (rfl : kd 1 = 8) (by decide) (fun _ => rfl) rfl inX8 (by decide) rfl kx_144 dX12_journeysAgree_44 (fun z5 => ?_)
    refine T_czVv (pc := 47) zk.1 hZ C [.ref (ad 1), vi 0, vi (s4 1 0)] [] (fun o h9 hw => ct_X1_searchRounds zk N s4 371 1 0 (s4 1 0) (rfl : kd 371 = 1) (rfl : kd 1 = 8) (rngL rfl) z5.1 hw o h9) kx_201 cm_X1_searchRounds (rcc (rfl : kd 371 = 1) (by decide) (fun _ => rfl) rfl) rfl rfl (Nat.le_of_ble_eq_true rfl) (by decide) (a' := 0) (b' := 0) ⟨rfl, rfl⟩ dX12_journeysAgree_47 (fun s6 => ?_)
    refine T_aload_n (pc := 50) C dX12_journeysAgree_50 rfl 0 rfl ?_
    refine Tc_getr (pc := 51) C 0 12 7 13 (rfl : kd 0 = 12) (by decide) (fun _ => rfl) rfl inX12 (by decide) (v := .ref (ad 376)) rfl kx_205 dX12_journeysAgree_51 ?_
    refine T_aload_n (pc := 54) C dX12_journeysAgree_54 rfl 0 rfl ?_
    refine Tc_getr (pc := 55) C 0 12 0 13 (rfl : kd 0 = 12) (by decide) (fun _ => rfl) rfl inX12 (by decide) (v := .ref (ad 1)) rfl kx_84 dX12_journeysAgree_55 ?_
    refine T_iconst (pc := 58) C dX12_journeysAgree_58 ?_
    refine T_czVv (pc := 59) zk.1 hZ C [.ref (ad 1), vi 0] [] (fun o h9 hw => ct_X2_searchRounds zk N s6 376 1 0 (rfl : kd 376 = 2) (rfl : kd 1 = 8) (rngL rfl) hw o h9) kx_206 cm_X2_searchRounds (rcc (rfl : kd 376 = 2) (by decide) (fun _ => rfl) rfl) rfl rfl (Nat.le_of_ble_eq_true rfl) (by decide) (a' := 0) (b' := 0) ⟨rfl, rfl⟩ dX12_journeysAgree_59 (fun s7 => ?_)
    refine T_aload_n (pc := 62) C dX12_journeysAgree_62 rfl 0 rfl ?_
    refine Tc_getr (pc := 63) C 0 12 7 13 (rfl : kd 0 = 12) (by decide) (fun _ => rfl) rfl inX12 (by decide) (v := .ref (ad 376)) rfl kx_205 dX12_journeysAgree_63 ?_
    refine T_aload_n (pc := 66) C dX12_journeysAgree_66 rfl 0 rfl ?_
    refine Tc_getr (pc := 67) C 0 12 0 13 (rfl : kd 0 = 12) (by decide) (fun _ => rfl) rfl inX12 (by decide) (v := .ref (ad 1)) rfl kx_84 dX12_journeysAgree_67 ?_
    refine T_czVv (pc := 70) zk.1 hZ C [.ref (ad 1)] [] (fun o h9 hw => ct_X2_fillTable zk N s7 376 1 (rfl : kd 376 = 2) (rfl : kd 1 = 8) hw o h9) kx_210 cm_X2_fillTable (rcc (rfl : kd 376 = 2) (by decide) (fun _ => rfl) rfl) rfl rfl (Nat.le_of_ble_eq_true rfl) (by decide) (a' := 0) (b' := 0) ⟨rfl, rfl⟩ dX12_journeysAgree_70 (fun s8 => ?_)
    refine T_iconst (pc := 73) C dX12_journeysAgree_73 ?_
    refine T_istore_n (pc := 74) (L' := [(1, vi 1), (0, .ref (ad 0))]) C dX12_journeysAgree_74 rfl (Nat.le_of_ble_eq_true rfl) rfl ?_
    refine T_sub (L' := [(0, .ref (ad 0)), (1, vi 1)]) [1, 0] rfl ?_
    refine T_loopS (g := fun v => v) (lp_X12_journeysAgree_75 zk zy hZ C s8 N 1 (rngL rfl)) (fun v h9 => h9) (fun q27 hq27 => ?_)
    refine T_iconst (pc := 136) C dX12_journeysAgree_136 ?_
    exact T_iret (pc := 137) (s8, 1) (fun h9 => h9) (rngL rfl) (nar_Z (Or.inr rfl)) (by decide) dX12_journeysAgree_137
  · refine T_iconst (pc := 10) C dX12_journeysAgree_10 ?_
    exact T_iret (pc := 11) (σ, 1) (fun h9 => h9) (rngL rfl) (nar_Z (Or.inr rfl)) (by decide) dX12_journeysAgree_11

abbrev rm_X12_seatsAgree : Room := ⟨3, 0, 0, 75⟩
theorem cm_X12_seatsAgree : cmV yX12_seatsAgree cX12_seatsAgree 5 (some .boolean) 0 := ⟨kx_63, kx_82, ⟨by decide +kernel, by decide +kernel, by decide +kernel⟩, kx_270, kx_271⟩
def f_X12_seatsAgree_2 (N : Nat) (σ : Sm) : Nat → Int → Option (Int ⊕ Unit)
  | 0, _ => none
  | n + 1, x1 => (if (σ 6 1) ≤ x1 then some (.inr ()) else if 0 ≤ x1 ∧ x1 < 16 then (f_X8_seatsLeft N σ 1 (σ (σ 7 x1.toNat).toNat 1) (σ (σ 7 x1.toNat).toNat 2) (σ (σ 7 x1.toNat).toNat 3) (σ (σ 7 x1.toNat).toNat 4)).bind fun v25 => (f_X8_seatsLeftSwept N σ 1 (σ (σ 7 x1.toNat).toNat 1) (σ (σ 7 x1.toNat).toNat 2) (σ (σ 7 x1.toNat).toNat 3) (σ (σ 7 x1.toNat).toNat 4)).bind fun v30 => (if v25 = v30 then (if 0 ≤ v25 then f_X12_seatsAgree_2 N σ n (x1 + 1) else some (.inl 0)) else some (.inl 0)) else none)
theorem lp_X12_seatsAgree_2 {X : vjX} {A : Nat → Prop} {Q : State → Prop} {cy : Nat → ClassId} {ad : Nat → Nat} {E : Nat → Nat → Nat} {G : va_G} {Z : vZ} {sa : Nat → Nat} (zk : Zk Z E) (zy : Zy Z E sa) (hZ : Zx Z X (Yc cy ad E G A 5 Q)) (C : Cx X (Yc cy ad E G A 5 Q) cX12_seatsAgree RX12 (some .boolean) rm_X12_seatsAgree (tyc cy)) (N : Nat) (σ : Sm) : ∀ (n : Nat) (x1 : Int) (h1 : rng x1), T X (Yc cy ad E G A 5 Q) (Sum.elim (fun v => EndI X (Yc cy ad E G A 5 Q) cX12_seatsAgree rm_X12_seatsAgree .boolean (σ, v)) (fun (q : Unit) => True → J X (Yc cy ad E G A 5 Q) 0 0 96 [] [] σ)) 0 0 2 [(0, .ref (ad 0)), (1, vi x1)] [] σ (f_X12_seatsAgree_2 N σ n x1) := by
  intro n
  induction n with
  | zero => intro x1 h1; exact T_none
  | succ n ih =>
    intro x1 h1
    rw [f_X12_seatsAgree_2]
    refine T_iload_n (pc := 2) C dX12_seatsAgree_2 rfl 1 rfl ?_
    refine T_aload_n (pc := 3) C dX12_seatsAgree_3 rfl 0 rfl ?_
    refine Tc_getr (pc := 4) C 0 12 0 13 (rfl : kd 0 = 12) (by decide) (fun _ => rfl) rfl inX12 (by decide) (v := .ref (ad 1)) rfl kx_84 dX12_seatsAgree_4 ?_
    refine Tc_getr (pc := 7) C 1 8 9 10 (rfl : kd 1 = 8) (by decide) (fun _ => rfl) rfl inX8 (by decide) (v := .ref (ad 6)) rfl kx_132 dX12_seatsAgree_7 ?_
    refine Tc_geti (pc := 10) C 6 11 1 6 (kd_8 (rfl : kd 1 = 8)).2.2.2.2.1 (by decide) (fun _ => rfl) rfl inX11 (by decide) rfl kx_229 dX12_seatsAgree_10 (fun z17 => ?_)
    refine T_icmp_ge (pc := 13) C 96 dX12_seatsAgree_13 rfl h1 z17 (fun c18 => ?_) (fun c18 => ?_)
    · refine T_sub (L' := []) [] rfl ?_
      exact T_exit (fun h9 => h9 trivial)
    · refine T_aload_n (pc := 16) C dX12_seatsAgree_16 rfl 0 rfl ?_
      refine Tc_getr (pc := 17) C 0 12 0 13 (rfl : kd 0 = 12) (by decide) (fun _ => rfl) rfl inX12 (by decide) (v := .ref (ad 1)) rfl kx_84 dX12_seatsAgree_17 ?_
      refine Tc_getr (pc := 20) C 1 8 9 10 (rfl : kd 1 = 8) (by decide) (fun _ => rfl) rfl inX8 (by decide) (v := .ref (ad 6)) rfl kx_132 dX12_seatsAgree_20 ?_
      refine Tc_getr (pc := 23) C 6 11 0 6 (kd_8 (rfl : kd 1 = 8)).2.2.2.2.1 (by decide) (fun _ => rfl) rfl inX11 (by decide) (v := .ref (ad 7)) rfl kx_232 dX12_seatsAgree_23 ?_
      refine T_iload_n (pc := 26) C dX12_seatsAgree_26 rfl 1 rfl ?_
      refine T_guard (fun g19 => ?_)
      refine Tc_ald28 (pc := 27) C 7 x1.toNat (kd_11 (kd_8 (rfl : kd 1 = 8)).2.2.2.2.1) g19 rfl dX12_seatsAgree_27 (fun y20 => ?_)
      refine T_astore_n (pc := 28) (L' := [(2, .ref (ad (σ 7 x1.toNat).toNat)), (0, .ref (ad 0)), (1, vi x1)]) C dX12_seatsAgree_28 rfl (Nat.le_of_ble_eq_true rfl) rfl ?_
      refine T_aload_n (pc := 29) C dX12_seatsAgree_29 rfl 1 rfl ?_
      refine Tc_getr (pc := 30) C 0 12 0 13 (rfl : kd 0 = 12) (by decide) (fun _ => rfl) rfl inX12 (by decide) (v := .ref (ad 1)) rfl kx_84 dX12_seatsAgree_30 ?_
      refine T_aload_n (pc := 33) C dX12_seatsAgree_33 rfl 0 rfl ?_
      refine Tc_geti (pc := 34) C (σ 7 x1.toNat).toNat 10 1 6 y20.2 (by decide) (fun _ => rfl) rfl inX10 (by decide) rfl kx_236 dX12_seatsAgree_34 (fun z21 => ?_)
      refine T_aload_n (pc := 37) C dX12_seatsAgree_37 rfl 0 rfl ?_
      refine Tc_geti (pc := 38) C (σ 7 x1.toNat).toNat 10 2 6 y20.2 (by decide) (fun _ => rfl) rfl inX10 (by decide) rfl kx_239 dX12_seatsAgree_38 (fun z22 => ?_)
      refine T_aload_n (pc := 41) C dX12_seatsAgree_41 rfl 0 rfl ?_
      refine Tc_geti (pc := 42) C (σ 7 x1.toNat).toNat 10 3 6 y20.2 (by decide) (fun _ => rfl) rfl inX10 (by decide) rfl kx_242 dX12_seatsAgree_42 (fun z23 => ?_)
      refine T_aload_n (pc := 45) C dX12_seatsAgree_45 rfl 0 rfl ?_
      refine Tc_geti (pc := 46) C (σ 7 x1.toNat).toNat 10 4 6 y20.2 (by decide) (fun _ => rfl) rfl inX10 (by decide) rfl kx_245 dX12_seatsAgree_46 (fun z24 => ?_)
      refine T_czVip (pc := 49) zk.1 hZ C [vi (σ (σ 7 x1.toNat).toNat 1), vi (σ (σ 7 x1.toNat).toNat 2), vi (σ (σ 7 x1.toNat).toNat 3), vi (σ (σ 7 x1.toNat).toNat 4)] [] (fun o h9 hw => ct_X8_seatsLeft zk N σ 1 (σ (σ 7 x1.toNat).toNat 1) (σ (σ 7 x1.toNat).toNat 2) (σ (σ 7 x1.toNat).toNat 3) (σ (σ 7 x1.toNat).toNat 4) (rfl : kd 1 = 8) z21 z22 z23 z24 hw o h9) kx_223 cm_X8_seatsLeft (rcc (rfl : kd 1 = 8) (by decide) (fun _ => rfl) rfl) rfl rfl (Nat.le_of_ble_eq_true rfl) (by decide) (a' := 0) (b' := 0) ⟨rfl, rfl⟩ dX12_seatsAgree_49 (fun v25 hv25 => ?_)
      refine T_istore_n (pc := 52) (L' := [(3, vi v25), (2, .ref (ad (σ 7 x1.toNat).toNat)), (0, .ref (ad 0)), (1, vi x1)]) C dX12_seatsAgree_52 rfl (Nat.le_of_ble_eq_true rfl) rfl ?_
      refine T_aload_n (pc := 53) C dX12_seatsAgree_53 rfl 2 rfl ?_
      refine Tc_getr (pc := 54) C 0 12 0 13 (rfl : kd 0 = 12) (by decide) (fun _ => rfl) rfl inX12 (by decide) (v := .ref (ad 1)) rfl kx_84 dX12_seatsAgree_54 ?_
      refine T_aload_n (pc := 57) C dX12_seatsAgree_57 rfl 1 rfl ?_
      refine Tc_geti (pc := 58) C (σ 7 x1.toNat).toNat 10 1 6 y20.2 (by decide) (fun _ => rfl) rfl inX10 (by decide) rfl kx_236 dX12_seatsAgree_58 (fun z26 => ?_)
      refine T_aload_n (pc := 61) C dX12_seatsAgree_61 rfl 1 rfl ?_
      refine Tc_geti (pc := 62) C (σ 7 x1.toNat).toNat 10 2 6 y20.2 (by decide) (fun _ => rfl) rfl inX10 (by decide) rfl kx_239 dX12_seatsAgree_62 (fun z27 => ?_)
      refine T_aload_n (pc := 65) C dX12_seatsAgree_65 rfl 1 rfl ?_
      refine Tc_geti (pc := 66) C (σ 7 x1.toNat).toNat 10 3 6 y20.2 (by decide) (fun _ => rfl) rfl inX10 (by decide) rfl kx_242 dX12_seatsAgree_66 (fun z28 => ?_)
      refine T_aload_n (pc := 69) C dX12_seatsAgree_69 rfl 1 rfl ?_
      refine Tc_geti (pc := 70) C (σ 7 x1.toNat).toNat 10 4 6 y20.2 (by decide) (fun _ => rfl) rfl inX10 (by decide) rfl kx_245 dX12_seatsAgree_70 (fun z29 => ?_)
      refine T_czVip (pc := 73) zk.1 hZ C [vi (σ (σ 7 x1.toNat).toNat 1), vi (σ (σ 7 x1.toNat).toNat 2), vi (σ (σ 7 x1.toNat).toNat 3), vi (σ (σ 7 x1.toNat).toNat 4)] [] (fun o h9 hw => ct_X8_seatsLeftSwept zk N σ 1 (σ (σ 7 x1.toNat).toNat 1) (σ (σ 7 x1.toNat).toNat 2) (σ (σ 7 x1.toNat).toNat 3) (σ (σ 7 x1.toNat).toNat 4) (rfl : kd 1 = 8) z26 z27 z28 z29 hw o h9) kx_226 cm_X8_seatsLeftSwept (rcc (rfl : kd 1 = 8) (by decide) (fun _ => rfl) rfl) rfl rfl (Nat.le_of_ble_eq_true rfl) (by decide) (a' := 0) (b' := 0) ⟨rfl, rfl⟩ dX12_seatsAgree_73 (fun v30 hv30 => ?_)
      refine T_istore (pc := 76) (L' := [(4, vi v30), (3, vi v25), (2, .ref (ad (σ 7 x1.toNat).toNat)), (0, .ref (ad 0)), (1, vi x1)]) C dX12_seatsAgree_76 (Nat.le_of_ble_eq_true rfl) rfl ?_
      refine T_iload_n (pc := 78) C dX12_seatsAgree_78 rfl 1 rfl ?_
      refine T_iload (pc := 79) C dX12_seatsAgree_79 0 rfl ?_
      refine T_icmp_ne (pc := 81) C 88 dX12_seatsAgree_81 rfl hv25.1 hv30.1 (fun c31 => ?_) (fun c31 => ?_)
      · refine T_iconst (pc := 88) C dX12_seatsAgree_88 ?_
        exact T_iret (pc := 89) (Sum.inl 0) (fun h9 => h9) (rngL rfl) (nar_Z (Or.inl rfl)) (by decide) dX12_seatsAgree_89
      · refine T_iload_n (pc := 84) C dX12_seatsAgree_84 rfl 1 rfl ?_
        refine T_if_ge (pc := 85) C 90 dX12_seatsAgree_85 rfl hv25.1 (fun c32 => ?_) (fun c32 => ?_)
        · refine T_iinc (pc := 90) (L' := [(1, vi (x1 + 1)), (4, vi v30), (3, vi v25), (2, .ref (ad (σ 7 x1.toNat).toNat)), (0, .ref (ad 0))]) C dX12_seatsAgree_90 (Nat.le_of_ble_eq_true rfl) 4 rfl rfl ?_
          refine T_goto (pc := 93) C 2 dX12_seatsAgree_93 rfl ?_
          refine T_sub (L' := [(0, .ref (ad 0)), (1, vi (x1 + 1))]) [4, 0] rfl ?_
          exact ih (x1 + 1) (rng_inc c18 h1 z17)
        · refine T_iconst (pc := 88) C dX12_seatsAgree_88 ?_
          exact T_iret (pc := 89) (Sum.inl 0) (fun h9 => h9) (rngL rfl) (nar_Z (Or.inl rfl)) (by decide) dX12_seatsAgree_89
def f_X12_seatsAgree (N : Nat) (σ : Sm) : Option Int :=
  (f_X12_seatsAgree_2 N σ N 0).bind (Sum.elim (fun v => some v) fun q33 => some 1)
theorem ct_X12_seatsAgree {l : Launch} {cy : Nat → ClassId} {ad : Nat → Nat} {E : Nat → Nat → Nat} {G : va_G} {Z : vZ} {sa : Nat → Nat} (zk : Zk Z E) (zy : Zy Z E sa) (N : Nat) (σ : Sm) (hw : wfc σ) (o : Int) (h : f_X12_seatsAgree N σ = some o) : CzI Z l yX12_seatsAgree cX12_seatsAgree 5 (some .boolean) rm_X12_seatsAgree (wlc cy ad E) wfc G (tyc cy) [.ref (ad 0)] σ σ o := by
  refine czI_of zk.1 (plainFor_of_name (by decide)) (Nat.le_of_ble_eq_true rfl) hw (σ, o) o h (fun X Y v => EndI X Y cX12_seatsAgree rm_X12_seatsAgree .boolean (σ, v)) (fun _ _ h => h) (fun X A Q hZ hX C => ?_)
  replace C : Cx X (Yc cy ad E G A 5 Q) cX12_seatsAgree RX12 (some .boolean) rm_X12_seatsAgree (tyc cy) := C
  replace hZ : Zx Z X (Yc cy ad E G A 5 Q) := hZ
  show T X (Yc cy ad E G A 5 Q) (fun v => EndI X (Yc cy ad E G A 5 Q) cX12_seatsAgree rm_X12_seatsAgree .boolean (σ, v)) 0 0 0 [(0, .ref (ad 0))] [] σ (f_X12_seatsAgree N σ)
  unfold f_X12_seatsAgree
  refine T_iconst (pc := 0) C dX12_seatsAgree_0 ?_
  refine T_istore_n (pc := 1) (L' := [(1, vi 0), (0, .ref (ad 0))]) C dX12_seatsAgree_1 rfl (Nat.le_of_ble_eq_true rfl) rfl ?_
  refine T_sub (L' := [(0, .ref (ad 0)), (1, vi 0)]) [1, 0] rfl ?_
  refine T_loopS (g := fun v => v) (lp_X12_seatsAgree_2 zk zy hZ C N σ N 0 (rngL rfl)) (fun v h9 => h9) (fun q33 hq33 => ?_)
  refine T_iconst (pc := 96) C dX12_seatsAgree_96 ?_
  exact T_iret (pc := 97) 1 (fun h9 => h9) (rngL rfl) (nar_Z (Or.inr rfl)) (by decide) dX12_seatsAgree_97

abbrev rm_X12_isConsistent : Room := ⟨6, 0, 0, 149⟩
theorem cm_X12_isConsistent : cmV yX12_isConsistent cX12_isConsistent 1 (some .boolean) 0 := ⟨kx_48, kx_82, ⟨by decide +kernel, by decide +kernel, by decide +kernel⟩, kx_275, kx_276⟩
def f_X12_isConsistent (N : Nat) (σ : Sm) : Option (Sm × Int) :=
  (f_X12_journeysAgree N σ).bind fun v1 => (if v1.2 = 0 then some (v1.1, 0) else (f_X12_flowsAgree N v1.1).bind fun v3 => (if v3.2 = 0 then some (v3.1, 0) else (f_X12_seatsAgree N v3.1).bind fun v5 => (if v5 = 0 then some (v3.1, 0) else some (v3.1, 1))))
theorem ct_X12_isConsistent {l : Launch} {cy : Nat → ClassId} {ad : Nat → Nat} {E : Nat → Nat → Nat} {G : va_G} {Z : vZ} {sa : Nat → Nat} (zk : Zk Z E) (zy : Zy Z E sa) (N : Nat) (σ : Sm) (hw : wfc σ) (o : Sm × Int) (h : f_X12_isConsistent N σ = some o) : CzI Z l yX12_isConsistent cX12_isConsistent 1 (some .boolean) rm_X12_isConsistent (wlc cy ad E) wfc G (tyc cy) [.ref (ad 0)] σ o.1 o.2 := by
  refine czI_of zk.1 (plainFor_of_name (by decide)) (Nat.le_of_ble_eq_true rfl) hw o o h (fun X Y w => EndI X Y cX12_isConsistent rm_X12_isConsistent .boolean w) (fun _ _ h => h) (fun X A Q hZ hX C => ?_)
  replace C : Cx X (Yc cy ad E G A 1 Q) cX12_isConsistent RX12 (some .boolean) rm_X12_isConsistent (tyc cy) := C
  replace hZ : Zx Z X (Yc cy ad E G A 1 Q) := hZ
  show T X (Yc cy ad E G A 1 Q) (fun w => EndI X (Yc cy ad E G A 1 Q) cX12_isConsistent rm_X12_isConsistent .boolean w) 0 0 0 [(0, .ref (ad 0))] [] σ (f_X12_isConsistent N σ)
  unfold f_X12_isConsistent
  refine T_aload_n (pc := 0) C dX12_isConsistent_0 rfl 0 rfl ?_
  refine T_czVi (pc := 1) zk.1 hZ C [] [] (fun o h9 hw => ct_X12_journeysAgree zk zy N σ hw o h9) kx_272 cm_X12_journeysAgree (rcc (rfl : kd 0 = 12) (by decide) (fun _ => rfl) rfl) rfl rfl (Nat.le_of_ble_eq_true rfl) (by decide) (a' := 0) (b' := 0) ⟨rfl, rfl⟩ dX12_isConsistent_1 (fun v1 hv1 => ?_)
  refine T_if_eq (pc := 4) C 25 dX12_isConsistent_4 rfl hv1.1 (fun c2 => ?_) (fun c2 => ?_)
  · refine T_iconst (pc := 25) C dX12_isConsistent_25 ?_
    exact T_iret (pc := 26) (v1.1, 0) (fun h9 => h9) (rngL rfl) (nar_Z (Or.inl rfl)) (by decide) dX12_isConsistent_26
  · refine T_aload_n (pc := 7) C dX12_isConsistent_7 rfl 0 rfl ?_
    refine T_czVi (pc := 8) zk.1 hZ C [] [] (fun o h9 hw => ct_X12_flowsAgree zk zy N v1.1 hw o h9) kx_273 cm_X12_flowsAgree (rcc (rfl : kd 0 = 12) (by decide) (fun _ => rfl) rfl) rfl rfl (Nat.le_of_ble_eq_true rfl) (by decide) (a' := 0) (b' := 0) ⟨rfl, rfl⟩ dX12_isConsistent_8 (fun v3 hv3 => ?_)
    refine T_if_eq (pc := 11) C 25 dX12_isConsistent_11 rfl hv3.1 (fun c4 => ?_) (fun c4 => ?_)
    · refine T_iconst (pc := 25) C dX12_isConsistent_25 ?_
      exact T_iret (pc := 26) (v3.1, 0) (fun h9 => h9) (rngL rfl) (nar_Z (Or.inl rfl)) (by decide) dX12_isConsistent_26
    · refine T_aload_n (pc := 14) C dX12_isConsistent_14 rfl 0 rfl ?_
      refine T_czVip (pc := 15) zk.1 hZ C [] [] (fun o h9 hw => ct_X12_seatsAgree zk zy N v3.1 hw o h9) kx_274 cm_X12_seatsAgree (rcc (rfl : kd 0 = 12) (by decide) (fun _ => rfl) rfl) rfl rfl (Nat.le_of_ble_eq_true rfl) (by decide) (a' := 0) (b' := 0) ⟨rfl, rfl⟩ dX12_isConsistent_15 (fun v5 hv5 => ?_)
      refine T_if_eq (pc := 18) C 25 dX12_isConsistent_18 rfl hv5.1 (fun c6 => ?_) (fun c6 => ?_)
      · refine T_iconst (pc := 25) C dX12_isConsistent_25 ?_
        exact T_iret (pc := 26) (v3.1, 0) (fun h9 => h9) (rngL rfl) (nar_Z (Or.inl rfl)) (by decide) dX12_isConsistent_26
      · refine T_iconst (pc := 21) C dX12_isConsistent_21 ?_
        refine T_goto (pc := 22) C 26 dX12_isConsistent_22 rfl ?_
        exact T_iret (pc := 26) (v3.1, 1) (fun h9 => h9) (rngL rfl) (nar_Z (Or.inr rfl)) (by decide) dX12_isConsistent_26

abbrev rm_X12_type : Room := ⟨6, 1, 6, 82⟩
theorem cm_X12_type : cmV yX12_type cX12_type 2 (some .int) 1 := ⟨kx_49, kx_82, ⟨by decide +kernel, by decide +kernel, by decide +kernel⟩, kx_280, kx_281⟩
def f_X12_type (σ : Sm) (x1 : Int) : Option (So Sm) :=
  (if x1 < 32 then some (σ, 2, 0) else (if x1 ≤ 126 then (if (σ 386 1) < 60 then (f_X9_append σ 386 x1).bind fun v5 => some (v5.1, 0, v5.2) else some (σ, 3, 0)) else some (σ, 2, 0)))
theorem ct_X12_type {l : Launch} {cy : Nat → ClassId} {ad : Nat → Nat} {E : Nat → Nat → Nat} {G : va_G} {Z : vZ} {sa : Nat → Nat} (zk : Zk Z E) (zy : Zy Z E sa) (hst : l.stackTraces = false) (σ : Sm) (x1 : Int) (h1 : 0 ≤ x1 ∧ x1 < 65536) (hw : wfc σ) (o : So Sm) (h : f_X12_type σ x1 = some o) : CxI Z l yX12_type cX12_type 2 (some .int) rm_X12_type (wlc cy ad E) wfc G (tyc cy) [.ref (ad 0), vi x1] σ o := by
  refine cxI_of zk.1 zy.1 hst (by decide) (Nat.le_of_ble_eq_true rfl) hw o h (fun X A Q hZ hX C => ?_)
  replace hst : X.2.1.stackTraces = false := by rw [hX]; exact hst
  replace C : Cx X (Yc cy ad E G A 2 Q) cX12_type RX12 (some .int) rm_X12_type (tyc cy) := C
  replace hZ : Zx Z X (Yc cy ad E G A 2 Q) := hZ
  show T X (Yc cy ad E G A 2 Q) (fun w => EndXI X (Yc cy ad E G A 2 Q) cX12_type rm_X12_type .int w ∧ EndX X (Yc cy ad E G A 2 Q) cX12_type RX12 rm_X12_type w) 0 0 0 [(0, .ref (ad 0)), (1, vi x1)] [] σ (f_X12_type σ x1)
  unfold f_X12_type
  refine T_iload_n (pc := 0) C dX12_type_0 rfl 1 rfl ?_
  refine T_bipush (pc := 1) C dX12_type_1 (by decide) ?_
  refine T_icmp_lt (pc := 3) C 12 dX12_type_3 rfl (chr_rng h1) (rngL rfl) (fun c1 => ?_) (fun c1 => ?_)
  · exact T_throw (pc := 12) 2 (σ, 2, 0) (fun h9 => h9.2) (by decide) (sa 400) "the character is not between 32 and 126" "java/lang/IllegalArgumentException" rfl ["java/lang/RuntimeException", "java/lang/Exception"] (by decide +kernel) (by decide +kernel) kx_74 kx_75 (zy.2.1 _ _ _ hZ (400, "the character is not between 32 and 126") (List.mem_of_getElem? (i := 13) rfl)) (xn_at zy hZ xa_1) (by decide) (by decide) (by decide) dX12_type_12 dX12_type_15 (Or.inr ⟨dX12_type_16, dX12_type_19, dX12_type_22⟩)
  · refine T_iload_n (pc := 6) C dX12_type_6 rfl 1 rfl ?_
    refine T_bipush (pc := 7) C dX12_type_7 (by decide) ?_
    refine T_icmp_le (pc := 9) C 23 dX12_type_9 rfl (chr_rng h1) (rngL rfl) (fun c2 => ?_) (fun c2 => ?_)
    · refine T_aload_n (pc := 23) C dX12_type_23 rfl 0 rfl ?_
      refine Tc_getr (pc := 24) C 0 12 9 13 (rfl : kd 0 = 12) (by decide) (fun _ => rfl) rfl inX12 (by decide) (v := .ref (ad 386)) rfl kx_277 dX12_type_24 ?_
      refine Tc_geti (pc := 27) C 386 9 1 6 (rfl : kd 386 = 9) (by decide) (fun _ => rfl) rfl inX9 (by decide) rfl kx_278 dX12_type_27 (fun z3 => ?_)
      refine T_bipush (pc := 30) C dX12_type_30 (by decide) ?_
      refine T_icmp_lt (pc := 32) C 46 dX12_type_32 rfl z3 (rngL rfl) (fun c4 => ?_) (fun c4 => ?_)
      · refine T_aload_n (pc := 46) C dX12_type_46 rfl 0 rfl ?_
        refine Tc_getr (pc := 47) C 0 12 9 13 (rfl : kd 0 = 12) (by decide) (fun _ => rfl) rfl inX12 (by decide) (v := .ref (ad 386)) rfl kx_277 dX12_type_47 ?_
        refine T_iload_n (pc := 50) C dX12_type_50 rfl 1 rfl ?_
        refine T_czVi (pc := 51) zk.1 hZ C [vi x1] [] (fun o h9 hw => ct_X9_append zk σ 386 x1 (rfl : kd 386 = 9) h1 hw o h9) kx_279 cm_X9_append (rcc (rfl : kd 386 = 9) (by decide) (fun _ => rfl) rfl) rfl rfl (Nat.le_of_ble_eq_true rfl) (by decide) (a' := 0) (b' := 0) ⟨rfl, rfl⟩ dX12_type_51 (fun v5 hv5 => ?_)
        exact T_xiret (pc := 54) (v5.1, 0, v5.2) (v5.1, 0, v5.2) rfl (fun h9 => h9.1) hv5.1 (nar_I _) (by decide) dX12_type_54
      · exact T_throw (pc := 35) 3 (σ, 3, 0) (fun h9 => h9.2) (by decide) (sa 407) "the script buffer is full" "java/lang/IllegalStateException" rfl ["java/lang/RuntimeException", "java/lang/Exception"] (by decide +kernel) (by decide +kernel) kx_76 kx_77 (zy.2.1 _ _ _ hZ (407, "the script buffer is full") (List.mem_of_getElem? (i := 14) rfl)) (xn_at zy hZ xa_2) (by decide) (by decide) (by decide) dX12_type_35 dX12_type_38 (Or.inr ⟨dX12_type_39, dX12_type_42, dX12_type_45⟩)
    · exact T_throw (pc := 12) 2 (σ, 2, 0) (fun h9 => h9.2) (by decide) (sa 400) "the character is not between 32 and 126" "java/lang/IllegalArgumentException" rfl ["java/lang/RuntimeException", "java/lang/Exception"] (by decide +kernel) (by decide +kernel) kx_74 kx_75 (zy.2.1 _ _ _ hZ (400, "the character is not between 32 and 126") (List.mem_of_getElem? (i := 13) rfl)) (xn_at zy hZ xa_1) (by decide) (by decide) (by decide) dX12_type_12 dX12_type_15 (Or.inr ⟨dX12_type_16, dX12_type_19, dX12_type_22⟩)

abbrev rm_X12_errorPosition : Room := ⟨6, 1, 6, 82⟩
theorem cm_X12_errorPosition : cmV yX12_errorPosition cX12_errorPosition 1 (some .int) 0 := ⟨kx_50, kx_82, ⟨by decide +kernel, by decide +kernel, by decide +kernel⟩, kx_283, kx_284⟩
def f_X12_errorPosition (σ : Sm) : Option (So Sm) :=
  (if (σ 0 10) = (-1) then some (σ, 4, 0) else some (σ, 0, (σ 0 10)))
theorem ct_X12_errorPosition {l : Launch} {cy : Nat → ClassId} {ad : Nat → Nat} {E : Nat → Nat → Nat} {G : va_G} {Z : vZ} {sa : Nat → Nat} (zk : Zk Z E) (zy : Zy Z E sa) (hst : l.stackTraces = false) (σ : Sm) (hw : wfc σ) (o : So Sm) (h : f_X12_errorPosition σ = some o) : CxI Z l yX12_errorPosition cX12_errorPosition 1 (some .int) rm_X12_errorPosition (wlc cy ad E) wfc G (tyc cy) [.ref (ad 0)] σ o := by
  refine cxI_of zk.1 zy.1 hst (by decide) (Nat.le_of_ble_eq_true rfl) hw o h (fun X A Q hZ hX C => ?_)
  replace hst : X.2.1.stackTraces = false := by rw [hX]; exact hst
  replace C : Cx X (Yc cy ad E G A 1 Q) cX12_errorPosition RX12 (some .int) rm_X12_errorPosition (tyc cy) := C
  replace hZ : Zx Z X (Yc cy ad E G A 1 Q) := hZ
  show T X (Yc cy ad E G A 1 Q) (fun w => EndXI X (Yc cy ad E G A 1 Q) cX12_errorPosition rm_X12_errorPosition .int w ∧ EndX X (Yc cy ad E G A 1 Q) cX12_errorPosition RX12 rm_X12_errorPosition w) 0 0 0 [(0, .ref (ad 0))] [] σ (f_X12_errorPosition σ)
  unfold f_X12_errorPosition
  refine T_aload_n (pc := 0) C dX12_errorPosition_0 rfl 0 rfl ?_
  refine Tc_geti (pc := 1) C 0 12 10 13 (rfl : kd 0 = 12) (by decide) (fun _ => rfl) rfl inX12 (by decide) rfl kx_282 dX12_errorPosition_1 (fun z1 => ?_)
  refine T_iconst (pc := 4) C dX12_errorPosition_4 ?_
  refine T_icmp_ne (pc := 5) C 19 dX12_errorPosition_5 rfl z1.1 (rngL rfl) (fun c2 => ?_) (fun c2 => ?_)
  · refine T_aload_n (pc := 19) C dX12_errorPosition_19 rfl 0 rfl ?_
    refine Tc_geti (pc := 20) C 0 12 10 13 (rfl : kd 0 = 12) (by decide) (fun _ => rfl) rfl inX12 (by decide) rfl kx_282 dX12_errorPosition_20 (fun z3 => ?_)
    exact T_xiret (pc := 23) (σ, 0, (σ 0 10)) (σ, 0, (σ 0 10)) rfl (fun h9 => h9.1) z3.1 (nar_I _) (by decide) dX12_errorPosition_23
  · exact T_throwN (pc := 8) (σ, 4, 0) (fun h9 => h9.2) (sa 430) "no script without the required form" kx_78 kx_79 (zy.2.1 _ _ _ hZ (430, "no script without the required form") (List.mem_of_getElem? (i := 17) rfl)) (xn_at zy hZ xa_3) (by decide) (by decide) (by decide) dX12_errorPosition_8 dX12_errorPosition_11 (Or.inr ⟨dX12_errorPosition_12, dX12_errorPosition_15, dX12_errorPosition_18⟩)

abbrev rm_X12_failedCommand : Room := ⟨6, 1, 6, 82⟩
theorem cm_X12_failedCommand : cmV yX12_failedCommand cX12_failedCommand 1 (some .int) 0 := ⟨kx_51, kx_82, ⟨by decide +kernel, by decide +kernel, by decide +kernel⟩, kx_286, kx_287⟩
def f_X12_failedCommand (σ : Sm) : Option (So Sm) :=
  (if (σ 0 11) = (-1) then some (σ, 4, 0) else some (σ, 0, (σ 0 11)))
theorem ct_X12_failedCommand {l : Launch} {cy : Nat → ClassId} {ad : Nat → Nat} {E : Nat → Nat → Nat} {G : va_G} {Z : vZ} {sa : Nat → Nat} (zk : Zk Z E) (zy : Zy Z E sa) (hst : l.stackTraces = false) (σ : Sm) (hw : wfc σ) (o : So Sm) (h : f_X12_failedCommand σ = some o) : CxI Z l yX12_failedCommand cX12_failedCommand 1 (some .int) rm_X12_failedCommand (wlc cy ad E) wfc G (tyc cy) [.ref (ad 0)] σ o := by
  refine cxI_of zk.1 zy.1 hst (by decide) (Nat.le_of_ble_eq_true rfl) hw o h (fun X A Q hZ hX C => ?_)
  replace hst : X.2.1.stackTraces = false := by rw [hX]; exact hst
  replace C : Cx X (Yc cy ad E G A 1 Q) cX12_failedCommand RX12 (some .int) rm_X12_failedCommand (tyc cy) := C
  replace hZ : Zx Z X (Yc cy ad E G A 1 Q) := hZ
  show T X (Yc cy ad E G A 1 Q) (fun w => EndXI X (Yc cy ad E G A 1 Q) cX12_failedCommand rm_X12_failedCommand .int w ∧ EndX X (Yc cy ad E G A 1 Q) cX12_failedCommand RX12 rm_X12_failedCommand w) 0 0 0 [(0, .ref (ad 0))] [] σ (f_X12_failedCommand σ)
  unfold f_X12_failedCommand
  refine T_aload_n (pc := 0) C dX12_failedCommand_0 rfl 0 rfl ?_
  refine Tc_geti (pc := 1) C 0 12 11 13 (rfl : kd 0 = 12) (by decide) (fun _ => rfl) rfl inX12 (by decide) rfl kx_285 dX12_failedCommand_1 (fun z1 => ?_)
  refine T_iconst (pc := 4) C dX12_failedCommand_4 ?_
  refine T_icmp_ne (pc := 5) C 19 dX12_failedCommand_5 rfl z1.1 (rngL rfl) (fun c2 => ?_) (fun c2 => ?_)
  · refine T_aload_n (pc := 19) C dX12_failedCommand_19 rfl 0 rfl ?_
    refine Tc_geti (pc := 20) C 0 12 11 13 (rfl : kd 0 = 12) (by decide) (fun _ => rfl) rfl inX12 (by decide) rfl kx_285 dX12_failedCommand_20 (fun z3 => ?_)
    exact T_xiret (pc := 23) (σ, 0, (σ 0 11)) (σ, 0, (σ 0 11)) rfl (fun h9 => h9.1) z3.1 (nar_I _) (by decide) dX12_failedCommand_23
  · exact T_throwN (pc := 8) (σ, 4, 0) (fun h9 => h9.2) (sa 432) "no script with a failed command" kx_78 kx_79 (zy.2.1 _ _ _ hZ (432, "no script with a failed command") (List.mem_of_getElem? (i := 18) rfl)) (xn_at zy hZ xa_3) (by decide) (by decide) (by decide) dX12_failedCommand_8 dX12_failedCommand_11 (Or.inr ⟨dX12_failedCommand_12, dX12_failedCommand_15, dX12_failedCommand_18⟩)

abbrev rm_X12_undo : Room := ⟨6, 1, 6, 128⟩
theorem cm_X12_undo : cmV yX12_undo cX12_undo 1 (some .int) 0 := ⟨kx_52, kx_82, ⟨by decide +kernel, by decide +kernel, by decide +kernel⟩, kx_290, kx_291⟩
def f_X12_undo (N : Nat) (σ : Sm) : Option (So Sm) :=
  (if (σ 100 2) = 0 then some (σ, 3, 0) else (f_X6_bringBack N σ 100 1).bind fun s3 => some (s3, 0, (s3 100 2)))
theorem ct_X12_undo {l : Launch} {cy : Nat → ClassId} {ad : Nat → Nat} {E : Nat → Nat → Nat} {G : va_G} {Z : vZ} {sa : Nat → Nat} (zk : Zk Z E) (zy : Zy Z E sa) (hst : l.stackTraces = false) (N : Nat) (σ : Sm) (hw : wfc σ) (o : So Sm) (h : f_X12_undo N σ = some o) : CxI Z l yX12_undo cX12_undo 1 (some .int) rm_X12_undo (wlc cy ad E) wfc G (tyc cy) [.ref (ad 0)] σ o := by
  refine cxI_of zk.1 zy.1 hst (by decide) (Nat.le_of_ble_eq_true rfl) hw o h (fun X A Q hZ hX C => ?_)
  replace hst : X.2.1.stackTraces = false := by rw [hX]; exact hst
  replace C : Cx X (Yc cy ad E G A 1 Q) cX12_undo RX12 (some .int) rm_X12_undo (tyc cy) := C
  replace hZ : Zx Z X (Yc cy ad E G A 1 Q) := hZ
  show T X (Yc cy ad E G A 1 Q) (fun w => EndXI X (Yc cy ad E G A 1 Q) cX12_undo rm_X12_undo .int w ∧ EndX X (Yc cy ad E G A 1 Q) cX12_undo RX12 rm_X12_undo w) 0 0 0 [(0, .ref (ad 0))] [] σ (f_X12_undo N σ)
  unfold f_X12_undo
  refine T_aload_n (pc := 0) C dX12_undo_0 rfl 0 rfl ?_
  refine Tc_getr (pc := 1) C 0 12 4 13 (rfl : kd 0 = 12) (by decide) (fun _ => rfl) rfl inX12 (by decide) (v := .ref (ad 100)) rfl kx_87 dX12_undo_1 ?_
  refine Tc_geti (pc := 4) C 100 6 2 3 (rfl : kd 100 = 6) (by decide) (fun _ => rfl) rfl inX6 (by decide) rfl kx_288 dX12_undo_4 (fun z1 => ?_)
  refine T_if_ne (pc := 7) C 21 dX12_undo_7 rfl z1 (fun c2 => ?_) (fun c2 => ?_)
  · refine T_aload_n (pc := 21) C dX12_undo_21 rfl 0 rfl ?_
    refine Tc_getr (pc := 22) C 0 12 4 13 (rfl : kd 0 = 12) (by decide) (fun _ => rfl) rfl inX12 (by decide) (v := .ref (ad 100)) rfl kx_87 dX12_undo_22 ?_
    refine T_aload_n (pc := 25) C dX12_undo_25 rfl 0 rfl ?_
    refine Tc_getr (pc := 26) C 0 12 0 13 (rfl : kd 0 = 12) (by decide) (fun _ => rfl) rfl inX12 (by decide) (v := .ref (ad 1)) rfl kx_84 dX12_undo_26 ?_
    refine T_czVv (pc := 29) zk.1 hZ C [.ref (ad 1)] [] (fun o h9 hw => ct_X6_bringBack zk N σ 100 1 (rfl : kd 100 = 6) (rfl : kd 1 = 8) hw o h9) kx_289 cm_X6_bringBack (rcc (rfl : kd 100 = 6) (by decide) (fun _ => rfl) rfl) rfl rfl (Nat.le_of_ble_eq_true rfl) (by decide) (a' := 0) (b' := 0) ⟨rfl, rfl⟩ dX12_undo_29 (fun s3 => ?_)
    refine T_aload_n (pc := 32) C dX12_undo_32 rfl 0 rfl ?_
    refine Tc_getr (pc := 33) C 0 12 4 13 (rfl : kd 0 = 12) (by decide) (fun _ => rfl) rfl inX12 (by decide) (v := .ref (ad 100)) rfl kx_87 dX12_undo_33 ?_
    refine Tc_geti (pc := 36) C 100 6 2 3 (rfl : kd 100 = 6) (by decide) (fun _ => rfl) rfl inX6 (by decide) rfl kx_288 dX12_undo_36 (fun z4 => ?_)
    exact T_xiret (pc := 39) (s3, 0, (s3 100 2)) (s3, 0, (s3 100 2)) rfl (fun h9 => h9.1) z4 (nar_I _) (by decide) dX12_undo_39
  · exact T_throw (pc := 10) 3 (σ, 3, 0) (fun h9 => h9.2) (by decide) (sa 435) "there is nothing to undo" "java/lang/IllegalStateException" rfl ["java/lang/RuntimeException", "java/lang/Exception"] (by decide +kernel) (by decide +kernel) kx_76 kx_77 (zy.2.1 _ _ _ hZ (435, "there is nothing to undo") (List.mem_of_getElem? (i := 19) rfl)) (xn_at zy hZ xa_2) (by decide) (by decide) (by decide) dX12_undo_10 dX12_undo_13 (Or.inr ⟨dX12_undo_14, dX12_undo_17, dX12_undo_20⟩)

abbrev rm_X12_save : Room := ⟨3, 0, 0, 107⟩
theorem cm_X12_save : cmV yX12_save cX12_save 1 (some .int) 0 := ⟨kx_53, kx_82, ⟨by decide +kernel, by decide +kernel, by decide +kernel⟩, kx_295, kx_296⟩
def f_X12_save (N : Nat) (σ : Sm) : Option (Sm × Int) :=
  (f_X8_copyFrom N σ 67 1).bind fun s1 => bl (upm s1 0 3 1) fun s2 => some (s2, (s2 6 1))
theorem ct_X12_save {l : Launch} {cy : Nat → ClassId} {ad : Nat → Nat} {E : Nat → Nat → Nat} {G : va_G} {Z : vZ} {sa : Nat → Nat} (zk : Zk Z E) (zy : Zy Z E sa) (N : Nat) (σ : Sm) (hw : wfc σ) (o : Sm × Int) (h : f_X12_save N σ = some o) : CzI Z l yX12_save cX12_save 1 (some .int) rm_X12_save (wlc cy ad E) wfc G (tyc cy) [.ref (ad 0)] σ o.1 o.2 := by
  refine czI_of zk.1 (plainFor_of_name (by decide)) (Nat.le_of_ble_eq_true rfl) hw o o h (fun X Y w => EndI X Y cX12_save rm_X12_save .int w) (fun _ _ h => h) (fun X A Q hZ hX C => ?_)
  replace C : Cx X (Yc cy ad E G A 1 Q) cX12_save RX12 (some .int) rm_X12_save (tyc cy) := C
  replace hZ : Zx Z X (Yc cy ad E G A 1 Q) := hZ
  show T X (Yc cy ad E G A 1 Q) (fun w => EndI X (Yc cy ad E G A 1 Q) cX12_save rm_X12_save .int w) 0 0 0 [(0, .ref (ad 0))] [] σ (f_X12_save N σ)
  unfold f_X12_save
  refine T_aload_n (pc := 0) C dX12_save_0 rfl 0 rfl ?_
  refine Tc_getr (pc := 1) C 0 12 2 13 (rfl : kd 0 = 12) (by decide) (fun _ => rfl) rfl inX12 (by decide) (v := .ref (ad 67)) rfl kx_292 dX12_save_1 ?_
  refine T_aload_n (pc := 4) C dX12_save_4 rfl 0 rfl ?_
  refine Tc_getr (pc := 5) C 0 12 0 13 (rfl : kd 0 = 12) (by decide) (fun _ => rfl) rfl inX12 (by decide) (v := .ref (ad 1)) rfl kx_84 dX12_save_5 ?_
  refine T_czVv (pc := 8) zk.1 hZ C [.ref (ad 1)] [] (fun o h9 hw => ct_X8_copyFrom zk N σ 67 1 (rfl : kd 67 = 8) (rfl : kd 1 = 8) hw o h9) kx_293 cm_X8_copyFrom (rcc (rfl : kd 67 = 8) (by decide) (fun _ => rfl) rfl) rfl rfl (Nat.le_of_ble_eq_true rfl) (by decide) (a' := 0) (b' := 0) ⟨rfl, rfl⟩ dX12_save_8 (fun s1 => ?_)
  refine T_aload_n (pc := 11) C dX12_save_11 rfl 0 rfl ?_
  refine T_iconst (pc := 12) C dX12_save_12 ?_
  refine Tc_put (pc := 13) C (ty := .boolean) 0 12 3 13 (rfl : kd 0 = 12) (by decide) (fun _ => rfl) rfl inX12 (by decide) (fun _ => rfl) ⟨bit_rng (Or.inr rfl), fun _ => (Or.inr rfl)⟩ tyX12 tyX12_ok nmX12 rfl (Nat.le_of_ble_eq_true rfl) kx_294 rfl (nar_Z (Or.inr rfl)) (fit_Z (Or.inr rfl)) dX12_save_13 ?_
  refine T_blS (fun s2 => ?_)
  refine T_aload_n (pc := 16) C dX12_save_16 rfl 0 rfl ?_
  refine Tc_getr (pc := 17) C 0 12 0 13 (rfl : kd 0 = 12) (by decide) (fun _ => rfl) rfl inX12 (by decide) (v := .ref (ad 1)) rfl kx_84 dX12_save_17 ?_
  refine Tc_getr (pc := 20) C 1 8 9 10 (rfl : kd 1 = 8) (by decide) (fun _ => rfl) rfl inX8 (by decide) (v := .ref (ad 6)) rfl kx_132 dX12_save_20 ?_
  refine Tc_geti (pc := 23) C 6 11 1 6 (kd_8 (rfl : kd 1 = 8)).2.2.2.2.1 (by decide) (fun _ => rfl) rfl inX11 (by decide) rfl kx_229 dX12_save_23 (fun z3 => ?_)
  exact T_iret (pc := 26) (s2, (s2 6 1)) (fun h9 => h9) z3 (nar_I _) (by decide) dX12_save_26

abbrev rm_X12_restore : Room := ⟨6, 1, 6, 107⟩
theorem cm_X12_restore : cmV yX12_restore cX12_restore 1 (some .int) 0 := ⟨kx_54, kx_82, ⟨by decide +kernel, by decide +kernel, by decide +kernel⟩, kx_297, kx_298⟩
def f_X12_restore (N : Nat) (σ : Sm) : Option (So Sm) :=
  (if (σ 0 3) = 0 then some (σ, 3, 0) else (f_X8_copyFrom N σ 1 67).bind fun s3 => bl (upm s3 100 2 0) fun s4 => some (s4, 0, (s4 6 1)))
theorem ct_X12_restore {l : Launch} {cy : Nat → ClassId} {ad : Nat → Nat} {E : Nat → Nat → Nat} {G : va_G} {Z : vZ} {sa : Nat → Nat} (zk : Zk Z E) (zy : Zy Z E sa) (hst : l.stackTraces = false) (N : Nat) (σ : Sm) (hw : wfc σ) (o : So Sm) (h : f_X12_restore N σ = some o) : CxI Z l yX12_restore cX12_restore 1 (some .int) rm_X12_restore (wlc cy ad E) wfc G (tyc cy) [.ref (ad 0)] σ o := by
  refine cxI_of zk.1 zy.1 hst (by decide) (Nat.le_of_ble_eq_true rfl) hw o h (fun X A Q hZ hX C => ?_)
  replace hst : X.2.1.stackTraces = false := by rw [hX]; exact hst
  replace C : Cx X (Yc cy ad E G A 1 Q) cX12_restore RX12 (some .int) rm_X12_restore (tyc cy) := C
  replace hZ : Zx Z X (Yc cy ad E G A 1 Q) := hZ
  show T X (Yc cy ad E G A 1 Q) (fun w => EndXI X (Yc cy ad E G A 1 Q) cX12_restore rm_X12_restore .int w ∧ EndX X (Yc cy ad E G A 1 Q) cX12_restore RX12 rm_X12_restore w) 0 0 0 [(0, .ref (ad 0))] [] σ (f_X12_restore N σ)
  unfold f_X12_restore
  refine T_aload_n (pc := 0) C dX12_restore_0 rfl 0 rfl ?_
  refine Tc_geti (pc := 1) C 0 12 3 13 (rfl : kd 0 = 12) (by decide) (fun _ => rfl) rfl inX12 (by decide) rfl kx_294 dX12_restore_1 (fun z1 => ?_)
  refine T_if_ne (pc := 4) C 18 dX12_restore_4 rfl (bit_rng (z1.2 rfl)) (fun c2 => ?_) (fun c2 => ?_)
  · refine T_aload_n (pc := 18) C dX12_restore_18 rfl 0 rfl ?_
    refine Tc_getr (pc := 19) C 0 12 0 13 (rfl : kd 0 = 12) (by decide) (fun _ => rfl) rfl inX12 (by decide) (v := .ref (ad 1)) rfl kx_84 dX12_restore_19 ?_
    refine T_aload_n (pc := 22) C dX12_restore_22 rfl 0 rfl ?_
    refine Tc_getr (pc := 23) C 0 12 2 13 (rfl : kd 0 = 12) (by decide) (fun _ => rfl) rfl inX12 (by decide) (v := .ref (ad 67)) rfl kx_292 dX12_restore_23 ?_
    refine T_czVv (pc := 26) zk.1 hZ C [.ref (ad 67)] [] (fun o h9 hw => ct_X8_copyFrom zk N σ 1 67 (rfl : kd 1 = 8) (rfl : kd 67 = 8) hw o h9) kx_293 cm_X8_copyFrom (rcc (rfl : kd 1 = 8) (by decide) (fun _ => rfl) rfl) rfl rfl (Nat.le_of_ble_eq_true rfl) (by decide) (a' := 0) (b' := 0) ⟨rfl, rfl⟩ dX12_restore_26 (fun s3 => ?_)
    refine T_aload_n (pc := 29) C dX12_restore_29 rfl 0 rfl ?_
    refine Tc_getr (pc := 30) C 0 12 4 13 (rfl : kd 0 = 12) (by decide) (fun _ => rfl) rfl inX12 (by decide) (v := .ref (ad 100)) rfl kx_87 dX12_restore_30 ?_
    refine T_iconst (pc := 33) C dX12_restore_33 ?_
    refine Tc_put (pc := 34) C (ty := .int) 100 6 2 3 (rfl : kd 100 = 6) (by decide) (fun _ => rfl) rfl inX6 (by decide) (fun _ => rfl) (rngL rfl) tyX6 tyX6_ok nmX6 rfl (Nat.le_of_ble_eq_true rfl) kx_288 rfl (nar_I _) (fit_I _) dX12_restore_34 ?_
    refine T_blS (fun s4 => ?_)
    refine T_aload_n (pc := 37) C dX12_restore_37 rfl 0 rfl ?_
    refine Tc_getr (pc := 38) C 0 12 0 13 (rfl : kd 0 = 12) (by decide) (fun _ => rfl) rfl inX12 (by decide) (v := .ref (ad 1)) rfl kx_84 dX12_restore_38 ?_
    refine Tc_getr (pc := 41) C 1 8 9 10 (rfl : kd 1 = 8) (by decide) (fun _ => rfl) rfl inX8 (by decide) (v := .ref (ad 6)) rfl kx_132 dX12_restore_41 ?_
    refine Tc_geti (pc := 44) C 6 11 1 6 (kd_8 (rfl : kd 1 = 8)).2.2.2.2.1 (by decide) (fun _ => rfl) rfl inX11 (by decide) rfl kx_229 dX12_restore_44 (fun z5 => ?_)
    exact T_xiret (pc := 47) (s4, 0, (s4 6 1)) (s4, 0, (s4 6 1)) rfl (fun h9 => h9.1) z5 (nar_I _) (by decide) dX12_restore_47
  · exact T_throw (pc := 7) 3 (σ, 3, 0) (fun h9 => h9.2) (by decide) (sa 440) "there is no snapshot" "java/lang/IllegalStateException" rfl ["java/lang/RuntimeException", "java/lang/Exception"] (by decide +kernel) (by decide +kernel) kx_76 kx_77 (zy.2.1 _ _ _ hZ (440, "there is no snapshot") (List.mem_of_getElem? (i := 20) rfl)) (xn_at zy hZ xa_2) (by decide) (by decide) (by decide) dX12_restore_7 dX12_restore_10 (Or.inr ⟨dX12_restore_11, dX12_restore_14, dX12_restore_17⟩)

abbrev rm_X12_carryOut : Room := ⟨3, 0, 0, 68⟩
theorem cm_X12_carryOut : cmV yX12_carryOut cX12_carryOut 6 none 1 := ⟨kx_60, kx_82, ⟨by decide +kernel, by decide +kernel, by decide +kernel⟩, kx_305, kx_306⟩
def f_X12_carryOut (N : Nat) (σ : Sm) (x1 : Int) : Option Sm :=
  (f_X9_valueOf σ 386 x1 0).bind fun v1 => (f_X9_valueOf σ 386 x1 1).bind fun v2 => (f_X9_valueOf σ 386 x1 2).bind fun v3 => (f_X9_valueOf σ 386 x1 3).bind fun v4 => (f_X9_commandOf σ 386 x1).bind fun v5 => (if (swc v5) = 1 then (f_X8_putStop σ 1 v1).bind fun v7 => some v7.1 else (if (swc v5) = 2 then (f_X8_putWalk σ 1 v1 v2 v3).bind fun v9 => some v9.1 else (if (swc v5) = 3 then (f_X8_putLine σ 1 v1 v2 v3 v4).bind fun v11 => some v11.1 else (if (swc v5) = 4 then if 0 ≤ v1 ∧ v1 < 5 then (f_X7_append σ (1 + 23 + 2 * v1.toNat) v2).bind fun v15 => some v15.1 else none else (if (swc v5) = 5 then if 0 ≤ v1 ∧ v1 < 5 then (f_X7_dropLast σ (1 + 23 + 2 * v1.toNat)).bind fun v19 => some v19.1 else none else (if (swc v5) = 6 then if 0 ≤ v1 ∧ v1 < 10 then bl (upm σ 3 v1.toNat 1) fun s22 => some s22 else none else (if (swc v5) = 7 then if 0 ≤ v1 ∧ v1 < 10 then bl (upm σ 3 v1.toNat 0) fun s25 => some s25 else none else (if (swc v5) = 8 then if 0 ≤ v1 ∧ v1 < 5 then bl (upm σ (1 + 23 + 2 * v1.toNat) 5 1) fun s29 => some s29 else none else (if (swc v5) = 9 then if 0 ≤ v1 ∧ v1 < 5 then bl (upm σ (1 + 23 + 2 * v1.toNat) 5 0) fun s33 => some s33 else none else (if (swc v5) = 10 then (f_X8_putTicket σ 1 v1 v2 v3 v4).bind fun v35 => some v35.1 else (if (swc v5) = 11 then (f_X11_placeOfId N σ 6 v1).bind fun v37 => (f_X11_giveBack N σ 6 v37).bind fun v38 => some v38.1 else (if (swc v5) = 12 then (f_X8_pass N σ 1 v1).bind fun v40 => some v40.1 else (if (swc v5) = 13 then bl (upm σ 1 1 1) fun s42 => some s42 else (if (swc v5) = 14 then bl (upm σ 1 1 0) fun s44 => some s44 else some σ))))))))))))))
theorem ct_X12_carryOut {l : Launch} {cy : Nat → ClassId} {ad : Nat → Nat} {E : Nat → Nat → Nat} {G : va_G} {Z : vZ} {sa : Nat → Nat} (zk : Zk Z E) (zy : Zy Z E sa) (N : Nat) (σ : Sm) (x1 : Int) (h1 : rng x1) (hw : wfc σ) (o : Sm) (h : f_X12_carryOut N σ x1 = some o) : CzV Z l yX12_carryOut cX12_carryOut 6 rm_X12_carryOut (wlc cy ad E) wfc G (tyc cy) [.ref (ad 0), vi x1] σ o := by
  refine czV_of zk.1 (plainFor_of_name (by decide)) (Nat.le_of_ble_eq_true rfl) hw o o h (fun X Y w => EndV X Y cX12_carryOut rm_X12_carryOut w) (fun _ _ h => h) (fun X A Q hZ hX C => ?_)
  replace C : Cx X (Yc cy ad E G A 6 Q) cX12_carryOut RX12 none rm_X12_carryOut (tyc cy) := C
  replace hZ : Zx Z X (Yc cy ad E G A 6 Q) := hZ
  show T X (Yc cy ad E G A 6 Q) (fun w => EndV X (Yc cy ad E G A 6 Q) cX12_carryOut rm_X12_carryOut w) 0 0 0 [(0, .ref (ad 0)), (1, vi x1)] [] σ (f_X12_carryOut N σ x1)
  unfold f_X12_carryOut
  refine T_aload_n (pc := 0) C dX12_carryOut_0 rfl 0 rfl ?_
  refine Tc_getr (pc := 1) C 0 12 9 13 (rfl : kd 0 = 12) (by decide) (fun _ => rfl) rfl inX12 (by decide) (v := .ref (ad 386)) rfl kx_277 dX12_carryOut_1 ?_
  refine T_iload_n (pc := 4) C dX12_carryOut_4 rfl 1 rfl ?_
  refine T_iconst (pc := 5) C dX12_carryOut_5 ?_
  refine T_czVip (pc := 6) zk.1 hZ C [vi x1, vi 0] [] (fun o h9 hw => ct_X9_valueOf zk σ 386 x1 0 (rfl : kd 386 = 9) h1 (rngL rfl) hw o h9) kx_299 cm_X9_valueOf (rcc (rfl : kd 386 = 9) (by decide) (fun _ => rfl) rfl) rfl rfl (Nat.le_of_ble_eq_true rfl) (by decide) (a' := 0) (b' := 0) ⟨rfl, rfl⟩ dX12_carryOut_6 (fun v1 hv1 => ?_)
  refine T_istore_n (pc := 9) (L' := [(2, vi v1), (0, .ref (ad 0)), (1, vi x1)]) C dX12_carryOut_9 rfl (Nat.le_of_ble_eq_true rfl) rfl ?_
  refine T_aload_n (pc := 10) C dX12_carryOut_10 rfl 1 rfl ?_
  refine Tc_getr (pc := 11) C 0 12 9 13 (rfl : kd 0 = 12) (by decide) (fun _ => rfl) rfl inX12 (by decide) (v := .ref (ad 386)) rfl kx_277 dX12_carryOut_11 ?_
  refine T_iload_n (pc := 14) C dX12_carryOut_14 rfl 2 rfl ?_
  refine T_iconst (pc := 15) C dX12_carryOut_15 ?_
  refine T_czVip (pc := 16) zk.1 hZ C [vi x1, vi 1] [] (fun o h9 hw => ct_X9_valueOf zk σ 386 x1 1 (rfl : kd 386 = 9) h1 (rngL rfl) hw o h9) kx_299 cm_X9_valueOf (rcc (rfl : kd 386 = 9) (by decide) (fun _ => rfl) rfl) rfl rfl (Nat.le_of_ble_eq_true rfl) (by decide) (a' := 0) (b' := 0) ⟨rfl, rfl⟩ dX12_carryOut_16 (fun v2 hv2 => ?_)
  refine T_istore_n (pc := 19) (L' := [(3, vi v2), (2, vi v1), (0, .ref (ad 0)), (1, vi x1)]) C dX12_carryOut_19 rfl (Nat.le_of_ble_eq_true rfl) rfl ?_
  refine T_aload_n (pc := 20) C dX12_carryOut_20 rfl 2 rfl ?_
  refine Tc_getr (pc := 21) C 0 12 9 13 (rfl : kd 0 = 12) (by decide) (fun _ => rfl) rfl inX12 (by decide) (v := .ref (ad 386)) rfl kx_277 dX12_carryOut_21 ?_
  refine T_iload_n (pc := 24) C dX12_carryOut_24 rfl 3 rfl ?_
  refine T_iconst (pc := 25) C dX12_carryOut_25 ?_
  refine T_czVip (pc := 26) zk.1 hZ C [vi x1, vi 2] [] (fun o h9 hw => ct_X9_valueOf zk σ 386 x1 2 (rfl : kd 386 = 9) h1 (rngL rfl) hw o h9) kx_299 cm_X9_valueOf (rcc (rfl : kd 386 = 9) (by decide) (fun _ => rfl) rfl) rfl rfl (Nat.le_of_ble_eq_true rfl) (by decide) (a' := 0) (b' := 0) ⟨rfl, rfl⟩ dX12_carryOut_26 (fun v3 hv3 => ?_)
  refine T_istore (pc := 29) (L' := [(4, vi v3), (3, vi v2), (2, vi v1), (0, .ref (ad 0)), (1, vi x1)]) C dX12_carryOut_29 (Nat.le_of_ble_eq_true rfl) rfl ?_
  refine T_aload_n (pc := 31) C dX12_carryOut_31 rfl 3 rfl ?_
  refine Tc_getr (pc := 32) C 0 12 9 13 (rfl : kd 0 = 12) (by decide) (fun _ => rfl) rfl inX12 (by decide) (v := .ref (ad 386)) rfl kx_277 dX12_carryOut_32 ?_
  refine T_iload_n (pc := 35) C dX12_carryOut_35 rfl 4 rfl ?_
  refine T_iconst (pc := 36) C dX12_carryOut_36 ?_
  refine T_czVip (pc := 37) zk.1 hZ C [vi x1, vi 3] [] (fun o h9 hw => ct_X9_valueOf zk σ 386 x1 3 (rfl : kd 386 = 9) h1 (rngL rfl) hw o h9) kx_299 cm_X9_valueOf (rcc (rfl : kd 386 = 9) (by decide) (fun _ => rfl) rfl) rfl rfl (Nat.le_of_ble_eq_true rfl) (by decide) (a' := 0) (b' := 0) ⟨rfl, rfl⟩ dX12_carryOut_37 (fun v4 hv4 => ?_)
  refine T_istore (pc := 40) (L' := [(5, vi v4), (4, vi v3), (3, vi v2), (2, vi v1), (0, .ref (ad 0)), (1, vi x1)]) C dX12_carryOut_40 (Nat.le_of_ble_eq_true rfl) rfl ?_
  refine T_gettC zy.2.2.2.1 hZ (pc := 42) C kx_300 dX12_carryOut_42 ?_
  refine T_aload_n (pc := 45) C dX12_carryOut_45 rfl 4 rfl ?_
  refine Tc_getr (pc := 46) C 0 12 9 13 (rfl : kd 0 = 12) (by decide) (fun _ => rfl) rfl inX12 (by decide) (v := .ref (ad 386)) rfl kx_277 dX12_carryOut_46 ?_
  refine T_iload_n (pc := 49) C dX12_carryOut_49 rfl 5 rfl ?_
  refine T_czVep (pc := 50) zk.1 hZ C [vi x1] [.ref (E 2 1)] (fun o h9 hw => ct_X9_commandOf zk σ 386 x1 (rfl : kd 386 = 9) h1 hw o h9) kx_301 cm_X9_commandOf (rcc (rfl : kd 386 = 9) (by decide) (fun _ => rfl) rfl) rfl rfl (Nat.le_of_ble_eq_true rfl) (by decide) (a' := 0) (b' := 0) ⟨rfl, rfl⟩ dX12_carryOut_50 (fun v5 hv5 => ?_)
  refine T_ord (pc := 53) zy.2.2.1 zk.1 hZ C [.ref (E 2 1)] (ordC_v hv5).1 (ordC_v hv5).2.1 (ordC_v hv5).2.2 kx_65 kx_302 kx_303 kx_304 kx_69 kx_70 kx_71 (Nat.le_of_ble_eq_true rfl) (by decide) dX12_carryOut_53 ?_
  refine T_taldC zy.2.2.2.1 hZ (pc := 56) C hv5 dX12_carryOut_56 ?_
  refine T_ite (fun c6 => ?_) (fun c6 => ?_)
  · refine T_tswIn (pc := 57) C 1 c6 (rngL rfl) 128 dX12_carryOut_57 (by decide) (by decide) rfl rfl ?_
    refine T_aload_n (pc := 128) C dX12_carryOut_128 rfl 4 rfl ?_
    refine Tc_getr (pc := 129) C 0 12 0 13 (rfl : kd 0 = 12) (by decide) (fun _ => rfl) rfl inX12 (by decide) (v := .ref (ad 1)) rfl kx_84 dX12_carryOut_129 ?_
    refine T_iload_n (pc := 132) C dX12_carryOut_132 rfl 3 rfl ?_
    refine T_czVi (pc := 133) zk.1 hZ C [vi v1] [] (fun o h9 hw => ct_X8_putStop zk σ 1 v1 (rfl : kd 1 = 8) hv1.1 hw o h9) kx_89 cm_X8_putStop (rcc (rfl : kd 1 = 8) (by decide) (fun _ => rfl) rfl) rfl rfl (Nat.le_of_ble_eq_true rfl) (by decide) (a' := 0) (b' := 0) ⟨rfl, rfl⟩ dX12_carryOut_133 (fun v7 hv7 => ?_)
    refine T_pop (pc := 136) C dX12_carryOut_136 rfl ?_
    refine T_goto (pc := 137) C 339 dX12_carryOut_137 rfl ?_
    exact T_vret (pc := 339) v7.1 (fun h9 => h9) (by decide) dX12_carryOut_339
  refine T_ite (fun c8 => ?_) (fun c8 => ?_)
  · refine T_tswIn (pc := 57) C 2 c8 (rngL rfl) 140 dX12_carryOut_57 (by decide) (by decide) rfl rfl ?_
    refine T_aload_n (pc := 140) C dX12_carryOut_140 rfl 4 rfl ?_
    refine Tc_getr (pc := 141) C 0 12 0 13 (rfl : kd 0 = 12) (by decide) (fun _ => rfl) rfl inX12 (by decide) (v := .ref (ad 1)) rfl kx_84 dX12_carryOut_141 ?_
    refine T_iload_n (pc := 144) C dX12_carryOut_144 rfl 3 rfl ?_
    refine T_iload_n (pc := 145) C dX12_carryOut_145 rfl 2 rfl ?_
    refine T_iload (pc := 146) C dX12_carryOut_146 1 rfl ?_
    refine T_czVi (pc := 148) zk.1 hZ C [vi v1, vi v2, vi v3] [] (fun o h9 hw => ct_X8_putWalk zk σ 1 v1 v2 v3 (rfl : kd 1 = 8) hv1.1 hv2.1 hv3.1 hw o h9) kx_93 cm_X8_putWalk (rcc (rfl : kd 1 = 8) (by decide) (fun _ => rfl) rfl) rfl rfl (Nat.le_of_ble_eq_true rfl) (by decide) (a' := 0) (b' := 0) ⟨rfl, rfl⟩ dX12_carryOut_148 (fun v9 hv9 => ?_)
    refine T_pop (pc := 151) C dX12_carryOut_151 rfl ?_
    refine T_goto (pc := 152) C 339 dX12_carryOut_152 rfl ?_
    exact T_vret (pc := 339) v9.1 (fun h9 => h9) (by decide) dX12_carryOut_339
  refine T_ite (fun c10 => ?_) (fun c10 => ?_)
  · refine T_tswIn (pc := 57) C 3 c10 (rngL rfl) 155 dX12_carryOut_57 (by decide) (by decide) rfl rfl ?_
    refine T_aload_n (pc := 155) C dX12_carryOut_155 rfl 4 rfl ?_
    refine Tc_getr (pc := 156) C 0 12 0 13 (rfl : kd 0 = 12) (by decide) (fun _ => rfl) rfl inX12 (by decide) (v := .ref (ad 1)) rfl kx_84 dX12_carryOut_156 ?_
    refine T_iload_n (pc := 159) C dX12_carryOut_159 rfl 3 rfl ?_
    refine T_iload_n (pc := 160) C dX12_carryOut_160 rfl 2 rfl ?_
    refine T_iload (pc := 161) C dX12_carryOut_161 1 rfl ?_
    refine T_iload (pc := 163) C dX12_carryOut_163 0 rfl ?_
    refine T_czVi (pc := 165) zk.1 hZ C [vi v1, vi v2, vi v3, vi v4] [] (fun o h9 hw => ct_X8_putLine zk σ 1 v1 v2 v3 v4 (rfl : kd 1 = 8) hv1.1 hv2.1 hv3.1 hv4.1 hw o h9) kx_101 cm_X8_putLine (rcc (rfl : kd 1 = 8) (by decide) (fun _ => rfl) rfl) rfl rfl (Nat.le_of_ble_eq_true rfl) (by decide) (a' := 0) (b' := 0) ⟨rfl, rfl⟩ dX12_carryOut_165 (fun v11 hv11 => ?_)
    refine T_pop (pc := 168) C dX12_carryOut_168 rfl ?_
    refine T_goto (pc := 169) C 339 dX12_carryOut_169 rfl ?_
    exact T_vret (pc := 339) v11.1 (fun h9 => h9) (by decide) dX12_carryOut_339
  refine T_ite (fun c12 => ?_) (fun c12 => ?_)
  · refine T_tswIn (pc := 57) C 4 c12 (rngL rfl) 172 dX12_carryOut_57 (by decide) (by decide) rfl rfl ?_
    refine T_aload_n (pc := 172) C dX12_carryOut_172 rfl 4 rfl ?_
    refine Tc_getr (pc := 173) C 0 12 0 13 (rfl : kd 0 = 12) (by decide) (fun _ => rfl) rfl inX12 (by decide) (v := .ref (ad 1)) rfl kx_84 dX12_carryOut_173 ?_
    refine Tc_getr (pc := 176) C 1 8 8 10 (rfl : kd 1 = 8) (by decide) (fun _ => rfl) rfl inX8 (by decide) (v := .ref (ad 5)) rfl kx_105 dX12_carryOut_176 ?_
    refine T_iload_n (pc := 179) C dX12_carryOut_179 rfl 3 rfl ?_
    refine T_guard (fun g13 => ?_)
    refine Tc_ald27 (pc := 180) C 1 (rfl : kd 1 = 8) g13 dX12_carryOut_180 (fun y14 => ?_)
    refine T_iload_n (pc := 181) C dX12_carryOut_181 rfl 2 rfl ?_
    refine T_czVi (pc := 182) zk.1 hZ C [vi v2] [] (fun o h9 hw => ct_X7_append zk σ (1 + 23 + 2 * v1.toNat) v2 y14 hv2.1 hw o h9) kx_106 cm_X7_append (rcc y14 (by decide) (fun _ => rfl) rfl) rfl rfl (Nat.le_of_ble_eq_true rfl) (by decide) (a' := 0) (b' := 0) ⟨rfl, rfl⟩ dX12_carryOut_182 (fun v15 hv15 => ?_)
    refine T_pop (pc := 185) C dX12_carryOut_185 rfl ?_
    refine T_goto (pc := 186) C 339 dX12_carryOut_186 rfl ?_
    exact T_vret (pc := 339) v15.1 (fun h9 => h9) (by decide) dX12_carryOut_339
  refine T_ite (fun c16 => ?_) (fun c16 => ?_)
  · refine T_tswIn (pc := 57) C 5 c16 (rngL rfl) 189 dX12_carryOut_57 (by decide) (by decide) rfl rfl ?_
    refine T_aload_n (pc := 189) C dX12_carryOut_189 rfl 4 rfl ?_
    refine Tc_getr (pc := 190) C 0 12 0 13 (rfl : kd 0 = 12) (by decide) (fun _ => rfl) rfl inX12 (by decide) (v := .ref (ad 1)) rfl kx_84 dX12_carryOut_190 ?_
    refine Tc_getr (pc := 193) C 1 8 8 10 (rfl : kd 1 = 8) (by decide) (fun _ => rfl) rfl inX8 (by decide) (v := .ref (ad 5)) rfl kx_105 dX12_carryOut_193 ?_
    refine T_iload_n (pc := 196) C dX12_carryOut_196 rfl 3 rfl ?_
    refine T_guard (fun g17 => ?_)
    refine Tc_ald27 (pc := 197) C 1 (rfl : kd 1 = 8) g17 dX12_carryOut_197 (fun y18 => ?_)
    refine T_czVi (pc := 198) zk.1 hZ C [] [] (fun o h9 hw => ct_X7_dropLast zk σ (1 + 23 + 2 * v1.toNat) y18 hw o h9) kx_110 cm_X7_dropLast (rcc y18 (by decide) (fun _ => rfl) rfl) rfl rfl (Nat.le_of_ble_eq_true rfl) (by decide) (a' := 0) (b' := 0) ⟨rfl, rfl⟩ dX12_carryOut_198 (fun v19 hv19 => ?_)
    refine T_pop (pc := 201) C dX12_carryOut_201 rfl ?_
    refine T_goto (pc := 202) C 339 dX12_carryOut_202 rfl ?_
    exact T_vret (pc := 339) v19.1 (fun h9 => h9) (by decide) dX12_carryOut_339
  refine T_ite (fun c20 => ?_) (fun c20 => ?_)
  · refine T_tswIn (pc := 57) C 6 c20 (rngL rfl) 227 dX12_carryOut_57 (by decide) (by decide) rfl rfl ?_
    refine T_aload_n (pc := 227) C dX12_carryOut_227 rfl 4 rfl ?_
    refine Tc_getr (pc := 228) C 0 12 0 13 (rfl : kd 0 = 12) (by decide) (fun _ => rfl) rfl inX12 (by decide) (v := .ref (ad 1)) rfl kx_84 dX12_carryOut_228 ?_
    refine Tc_getr (pc := 231) C 1 8 4 10 (rfl : kd 1 = 8) (by decide) (fun _ => rfl) rfl inX8 (by decide) (v := .ref (ad 3)) rfl kx_121 dX12_carryOut_231 ?_
    refine T_iload_n (pc := 234) C dX12_carryOut_234 rfl 3 rfl ?_
    refine T_iconst (pc := 235) C dX12_carryOut_235 ?_
    refine T_guard (fun g21 => ?_)
    refine Tc_zast (pc := 236) C 3 v1.toNat (kd_8 (rfl : kd 1 = 8)).2.1 g21 rfl (Or.inr rfl) dX12_carryOut_236 ?_
    refine T_blS (fun s22 => ?_)
    refine T_goto (pc := 237) C 339 dX12_carryOut_237 rfl ?_
    exact T_vret (pc := 339) s22 (fun h9 => h9) (by decide) dX12_carryOut_339
  refine T_ite (fun c23 => ?_) (fun c23 => ?_)
  · refine T_tswIn (pc := 57) C 7 c23 (rngL rfl) 240 dX12_carryOut_57 (by decide) (by decide) rfl rfl ?_
    refine T_aload_n (pc := 240) C dX12_carryOut_240 rfl 4 rfl ?_
    refine Tc_getr (pc := 241) C 0 12 0 13 (rfl : kd 0 = 12) (by decide) (fun _ => rfl) rfl inX12 (by decide) (v := .ref (ad 1)) rfl kx_84 dX12_carryOut_241 ?_
    refine Tc_getr (pc := 244) C 1 8 4 10 (rfl : kd 1 = 8) (by decide) (fun _ => rfl) rfl inX8 (by decide) (v := .ref (ad 3)) rfl kx_121 dX12_carryOut_244 ?_
    refine T_iload_n (pc := 247) C dX12_carryOut_247 rfl 3 rfl ?_
    refine T_iconst (pc := 248) C dX12_carryOut_248 ?_
    refine T_guard (fun g24 => ?_)
    refine Tc_zast (pc := 249) C 3 v1.toNat (kd_8 (rfl : kd 1 = 8)).2.1 g24 rfl (Or.inl rfl) dX12_carryOut_249 ?_
    refine T_blS (fun s25 => ?_)
    refine T_goto (pc := 250) C 339 dX12_carryOut_250 rfl ?_
    exact T_vret (pc := 339) s25 (fun h9 => h9) (by decide) dX12_carryOut_339
  refine T_ite (fun c26 => ?_) (fun c26 => ?_)
  · refine T_tswIn (pc := 57) C 8 c26 (rngL rfl) 253 dX12_carryOut_57 (by decide) (by decide) rfl rfl ?_
    refine T_aload_n (pc := 253) C dX12_carryOut_253 rfl 4 rfl ?_
    refine Tc_getr (pc := 254) C 0 12 0 13 (rfl : kd 0 = 12) (by decide) (fun _ => rfl) rfl inX12 (by decide) (v := .ref (ad 1)) rfl kx_84 dX12_carryOut_254 ?_
    refine Tc_getr (pc := 257) C 1 8 8 10 (rfl : kd 1 = 8) (by decide) (fun _ => rfl) rfl inX8 (by decide) (v := .ref (ad 5)) rfl kx_105 dX12_carryOut_257 ?_
    refine T_iload_n (pc := 260) C dX12_carryOut_260 rfl 3 rfl ?_
    refine T_guard (fun g27 => ?_)
    refine Tc_ald27 (pc := 261) C 1 (rfl : kd 1 = 8) g27 dX12_carryOut_261 (fun y28 => ?_)
    refine T_iconst (pc := 262) C dX12_carryOut_262 ?_
    refine Tc_put (pc := 263) C (ty := .boolean) (1 + 23 + 2 * v1.toNat) 7 5 8 y28 (by decide) (fun _ => rfl) rfl inX7 (by decide) (fun _ => rfl) ⟨bit_rng (Or.inr rfl), fun _ => (Or.inr rfl)⟩ tyX7 tyX7_ok nmX7 rfl (Nat.le_of_ble_eq_true rfl) kx_125 rfl (nar_Z (Or.inr rfl)) (fit_Z (Or.inr rfl)) dX12_carryOut_263 ?_
    refine T_blS (fun s29 => ?_)
    refine T_goto (pc := 266) C 339 dX12_carryOut_266 rfl ?_
    exact T_vret (pc := 339) s29 (fun h9 => h9) (by decide) dX12_carryOut_339
  refine T_ite (fun c30 => ?_) (fun c30 => ?_)
  · refine T_tswIn (pc := 57) C 9 c30 (rngL rfl) 269 dX12_carryOut_57 (by decide) (by decide) rfl rfl ?_
    refine T_aload_n (pc := 269) C dX12_carryOut_269 rfl 4 rfl ?_
    refine Tc_getr (pc := 270) C 0 12 0 13 (rfl : kd 0 = 12) (by decide) (fun _ => rfl) rfl inX12 (by decide) (v := .ref (ad 1)) rfl kx_84 dX12_carryOut_270 ?_
    refine Tc_getr (pc := 273) C 1 8 8 10 (rfl : kd 1 = 8) (by decide) (fun _ => rfl) rfl inX8 (by decide) (v := .ref (ad 5)) rfl kx_105 dX12_carryOut_273 ?_
    refine T_iload_n (pc := 276) C dX12_carryOut_276 rfl 3 rfl ?_
    refine T_guard (fun g31 => ?_)
    refine Tc_ald27 (pc := 277) C 1 (rfl : kd 1 = 8) g31 dX12_carryOut_277 (fun y32 => ?_)
    refine T_iconst (pc := 278) C dX12_carryOut_278 ?_
    refine Tc_put (pc := 279) C (ty := .boolean) (1 + 23 + 2 * v1.toNat) 7 5 8 y32 (by decide) (fun _ => rfl) rfl inX7 (by decide) (fun _ => rfl) ⟨bit_rng (Or.inl rfl), fun _ => (Or.inl rfl)⟩ tyX7 tyX7_ok nmX7 rfl (Nat.le_of_ble_eq_true rfl) kx_125 rfl (nar_Z (Or.inl rfl)) (fit_Z (Or.inl rfl)) dX12_carryOut_279 ?_
    refine T_blS (fun s33 => ?_)
    refine T_goto (pc := 282) C 339 dX12_carryOut_282 rfl ?_
    exact T_vret (pc := 339) s33 (fun h9 => h9) (by decide) dX12_carryOut_339
  refine T_ite (fun c34 => ?_) (fun c34 => ?_)
  · refine T_tswIn (pc := 57) C 10 c34 (rngL rfl) 285 dX12_carryOut_57 (by decide) (by decide) rfl rfl ?_
    refine T_aload_n (pc := 285) C dX12_carryOut_285 rfl 4 rfl ?_
    refine Tc_getr (pc := 286) C 0 12 0 13 (rfl : kd 0 = 12) (by decide) (fun _ => rfl) rfl inX12 (by decide) (v := .ref (ad 1)) rfl kx_84 dX12_carryOut_286 ?_
    refine T_iload_n (pc := 289) C dX12_carryOut_289 rfl 3 rfl ?_
    refine T_iload_n (pc := 290) C dX12_carryOut_290 rfl 2 rfl ?_
    refine T_iload (pc := 291) C dX12_carryOut_291 1 rfl ?_
    refine T_iload (pc := 293) C dX12_carryOut_293 0 rfl ?_
    refine T_czVi (pc := 295) zk.1 hZ C [vi v1, vi v2, vi v3, vi v4] [] (fun o h9 hw => ct_X8_putTicket zk σ 1 v1 v2 v3 v4 (rfl : kd 1 = 8) hv1.1 hv2.1 hv3.1 hv4.1 hw o h9) kx_129 cm_X8_putTicket (rcc (rfl : kd 1 = 8) (by decide) (fun _ => rfl) rfl) rfl rfl (Nat.le_of_ble_eq_true rfl) (by decide) (a' := 0) (b' := 0) ⟨rfl, rfl⟩ dX12_carryOut_295 (fun v35 hv35 => ?_)
    refine T_pop (pc := 298) C dX12_carryOut_298 rfl ?_
    refine T_goto (pc := 299) C 339 dX12_carryOut_299 rfl ?_
    exact T_vret (pc := 339) v35.1 (fun h9 => h9) (by decide) dX12_carryOut_339
  refine T_ite (fun c36 => ?_) (fun c36 => ?_)
  · refine T_tswIn (pc := 57) C 11 c36 (rngL rfl) 302 dX12_carryOut_57 (by decide) (by decide) rfl rfl ?_
    refine T_aload_n (pc := 302) C dX12_carryOut_302 rfl 4 rfl ?_
    refine Tc_getr (pc := 303) C 0 12 0 13 (rfl : kd 0 = 12) (by decide) (fun _ => rfl) rfl inX12 (by decide) (v := .ref (ad 1)) rfl kx_84 dX12_carryOut_303 ?_
    refine Tc_getr (pc := 306) C 1 8 9 10 (rfl : kd 1 = 8) (by decide) (fun _ => rfl) rfl inX8 (by decide) (v := .ref (ad 6)) rfl kx_132 dX12_carryOut_306 ?_
    refine T_aload_n (pc := 309) C dX12_carryOut_309 rfl 4 rfl ?_
    refine Tc_getr (pc := 310) C 0 12 0 13 (rfl : kd 0 = 12) (by decide) (fun _ => rfl) rfl inX12 (by decide) (v := .ref (ad 1)) rfl kx_84 dX12_carryOut_310 ?_
    refine Tc_getr (pc := 313) C 1 8 9 10 (rfl : kd 1 = 8) (by decide) (fun _ => rfl) rfl inX8 (by decide) (v := .ref (ad 6)) rfl kx_132 dX12_carryOut_313 ?_
    refine T_iload_n (pc := 316) C dX12_carryOut_316 rfl 3 rfl ?_
    refine T_czVip (pc := 317) zk.1 hZ C [vi v1] [.ref (ad 6)] (fun o h9 hw => ct_X11_placeOfId zk N σ 6 v1 (kd_8 (rfl : kd 1 = 8)).2.2.2.2.1 hv1.1 hw o h9) kx_133 cm_X11_placeOfId (rcc (kd_8 (rfl : kd 1 = 8)).2.2.2.2.1 (by decide) (fun _ => rfl) rfl) rfl rfl (Nat.le_of_ble_eq_true rfl) (by decide) (a' := 0) (b' := 0) ⟨rfl, rfl⟩ dX12_carryOut_317 (fun v37 hv37 => ?_)
    refine T_czVi (pc := 320) zk.1 hZ C [vi v37] [] (fun o h9 hw => ct_X11_giveBack zk N σ 6 v37 (kd_8 (rfl : kd 1 = 8)).2.2.2.2.1 hv37.1 hw o h9) kx_137 cm_X11_giveBack (rcc (kd_8 (rfl : kd 1 = 8)).2.2.2.2.1 (by decide) (fun _ => rfl) rfl) rfl rfl (Nat.le_of_ble_eq_true rfl) (by decide) (a' := 0) (b' := 0) ⟨rfl, rfl⟩ dX12_carryOut_320 (fun v38 hv38 => ?_)
    refine T_pop (pc := 323) C dX12_carryOut_323 rfl ?_
    refine T_goto (pc := 324) C 339 dX12_carryOut_324 rfl ?_
    exact T_vret (pc := 339) v38.1 (fun h9 => h9) (by decide) dX12_carryOut_339
  refine T_ite (fun c39 => ?_) (fun c39 => ?_)
  · refine T_tswIn (pc := 57) C 12 c39 (rngL rfl) 327 dX12_carryOut_57 (by decide) (by decide) rfl rfl ?_
    refine T_aload_n (pc := 327) C dX12_carryOut_327 rfl 4 rfl ?_
    refine Tc_getr (pc := 328) C 0 12 0 13 (rfl : kd 0 = 12) (by decide) (fun _ => rfl) rfl inX12 (by decide) (v := .ref (ad 1)) rfl kx_84 dX12_carryOut_328 ?_
    refine T_iload_n (pc := 331) C dX12_carryOut_331 rfl 3 rfl ?_
    refine T_czVi (pc := 332) zk.1 hZ C [vi v1] [] (fun o h9 hw => ct_X8_pass zk N σ 1 v1 (rfl : kd 1 = 8) hv1.1 hw o h9) kx_141 cm_X8_pass (rcc (rfl : kd 1 = 8) (by decide) (fun _ => rfl) rfl) rfl rfl (Nat.le_of_ble_eq_true rfl) (by decide) (a' := 0) (b' := 0) ⟨rfl, rfl⟩ dX12_carryOut_332 (fun v40 hv40 => ?_)
    refine T_pop (pc := 335) C dX12_carryOut_335 rfl ?_
    refine T_goto (pc := 336) C 339 dX12_carryOut_336 rfl ?_
    exact T_vret (pc := 339) v40.1 (fun h9 => h9) (by decide) dX12_carryOut_339
  refine T_ite (fun c41 => ?_) (fun c41 => ?_)
  · refine T_tswIn (pc := 57) C 13 c41 (rngL rfl) 205 dX12_carryOut_57 (by decide) (by decide) rfl rfl ?_
    refine T_aload_n (pc := 205) C dX12_carryOut_205 rfl 4 rfl ?_
    refine Tc_getr (pc := 206) C 0 12 0 13 (rfl : kd 0 = 12) (by decide) (fun _ => rfl) rfl inX12 (by decide) (v := .ref (ad 1)) rfl kx_84 dX12_carryOut_206 ?_
    refine T_iconst (pc := 209) C dX12_carryOut_209 ?_
    refine Tc_put (pc := 210) C (ty := .boolean) 1 8 1 10 (rfl : kd 1 = 8) (by decide) (fun _ => rfl) rfl inX8 (by decide) (fun _ => rfl) ⟨bit_rng (Or.inr rfl), fun _ => (Or.inr rfl)⟩ tyX8 tyX8_ok nmX8 rfl (Nat.le_of_ble_eq_true rfl) kx_113 rfl (nar_Z (Or.inr rfl)) (fit_Z (Or.inr rfl)) dX12_carryOut_210 ?_
    refine T_blS (fun s42 => ?_)
    refine T_goto (pc := 213) C 339 dX12_carryOut_213 rfl ?_
    exact T_vret (pc := 339) s42 (fun h9 => h9) (by decide) dX12_carryOut_339
  refine T_ite (fun c43 => ?_) (fun c43 => ?_)
  · refine T_tswIn (pc := 57) C 14 c43 (rngL rfl) 216 dX12_carryOut_57 (by decide) (by decide) rfl rfl ?_
    refine T_aload_n (pc := 216) C dX12_carryOut_216 rfl 4 rfl ?_
    refine Tc_getr (pc := 217) C 0 12 0 13 (rfl : kd 0 = 12) (by decide) (fun _ => rfl) rfl inX12 (by decide) (v := .ref (ad 1)) rfl kx_84 dX12_carryOut_217 ?_
    refine T_iconst (pc := 220) C dX12_carryOut_220 ?_
    refine Tc_put (pc := 221) C (ty := .boolean) 1 8 1 10 (rfl : kd 1 = 8) (by decide) (fun _ => rfl) rfl inX8 (by decide) (fun _ => rfl) ⟨bit_rng (Or.inl rfl), fun _ => (Or.inl rfl)⟩ tyX8 tyX8_ok nmX8 rfl (Nat.le_of_ble_eq_true rfl) kx_113 rfl (nar_Z (Or.inl rfl)) (fit_Z (Or.inl rfl)) dX12_carryOut_221 ?_
    refine T_blS (fun s44 => ?_)
    refine T_goto (pc := 224) C 339 dX12_carryOut_224 rfl ?_
    exact T_vret (pc := 339) s44 (fun h9 => h9) (by decide) dX12_carryOut_339
  refine T_tswOut (pc := 57) C (swc_rng _) 339 dX12_carryOut_57 (by omega) rfl ?_
  exact T_vret (pc := 339) σ (fun h9 => h9) (by decide) dX12_carryOut_339

abbrev rm_X12_commandFault : Room := ⟨4, 0, 0, 99⟩
theorem cm_X12_commandFault : cmV yX12_commandFault cX12_commandFault 6 (some (.object "RingTransit$Fault")) 1 := ⟨kx_59, kx_82, ⟨by decide +kernel, by decide +kernel, by decide +kernel⟩, kx_309, kx_310⟩
def f_X12_commandFault (N : Nat) (σ : Sm) (x1 : Int) : Option Int :=
  (f_X9_valueOf σ 386 x1 0).bind fun v1 => (f_X9_valueOf σ 386 x1 1).bind fun v2 => (f_X9_valueOf σ 386 x1 2).bind fun v3 => (f_X9_valueOf σ 386 x1 3).bind fun v4 => (f_X9_commandOf σ 386 x1).bind fun v5 => (if (swc v5) = 1 then (f_X8_stopFault σ 1 v1).bind fun v7 => some v7 else (if (swc v5) = 2 then (f_X8_walkFault σ 1 v1 v2 v3).bind fun v9 => some v9 else (if (swc v5) = 3 then (f_X8_lineFault σ 1 v1 v2 v3 v4).bind fun v11 => some v11 else (if (swc v5) = 4 then (f_X8_extensionFault N σ 1 v1 v2).bind fun v13 => some v13 else (if (swc v5) = 5 then (f_X8_shorteningFault N σ 1 v1).bind fun v15 => some v15 else (if (swc v5) = 6 then (f_X8_stopIndexFault σ 1 v1).bind fun v17 => some v17 else (if (swc v5) = 7 then (f_X8_stopIndexFault σ 1 v1).bind fun v19 => some v19 else (if (swc v5) = 8 then (f_X8_lineIndexFault σ 1 v1).bind fun v21 => some v21 else (if (swc v5) = 9 then (f_X8_lineIndexFault σ 1 v1).bind fun v23 => some v23 else (if (swc v5) = 10 then (f_X8_saleFault N σ 1 v1 v2 v3 v4).bind fun v25 => some v25 else (if (swc v5) = 11 then (f_X11_placeOfId N σ 6 v1).bind fun v27 => (if v27 = (-1) then some 4 else some 0) else (if (swc v5) = 12 then (f_X8_waitFault 1 v1).bind fun v30 => some v30 else some 0))))))))))))
theorem ct_X12_commandFault {l : Launch} {cy : Nat → ClassId} {ad : Nat → Nat} {E : Nat → Nat → Nat} {G : va_G} {Z : vZ} {sa : Nat → Nat} (zk : Zk Z E) (zy : Zy Z E sa) (N : Nat) (σ : Sm) (x1 : Int) (h1 : rng x1) (hw : wfc σ) (o : Int) (h : f_X12_commandFault N σ x1 = some o) : CzE Z E 0 6 l yX12_commandFault cX12_commandFault 6 (some (.object "RingTransit$Fault")) rm_X12_commandFault (wlc cy ad E) wfc G (tyc cy) [.ref (ad 0), vi x1] σ σ o := by
  refine czE_of zk.1 (plainFor_of_name (by decide)) (Nat.le_of_ble_eq_true rfl) hw (σ, o) o h (fun X Y v => EndE E 0 6 X Y cX12_commandFault rm_X12_commandFault (σ, v)) (fun _ _ h => h) (fun X A Q hZ hX C => ?_)
  replace C : Cx X (Yc cy ad E G A 6 Q) cX12_commandFault RX12 (some (.object "RingTransit$Fault")) rm_X12_commandFault (tyc cy) := C
  replace hZ : Zx Z X (Yc cy ad E G A 6 Q) := hZ
  show T X (Yc cy ad E G A 6 Q) (fun v => EndE E 0 6 X (Yc cy ad E G A 6 Q) cX12_commandFault rm_X12_commandFault (σ, v)) 0 0 0 [(0, .ref (ad 0)), (1, vi x1)] [] σ (f_X12_commandFault N σ x1)
  unfold f_X12_commandFault
  refine T_aload_n (pc := 0) C dX12_commandFault_0 rfl 0 rfl ?_
  refine Tc_getr (pc := 1) C 0 12 9 13 (rfl : kd 0 = 12) (by decide) (fun _ => rfl) rfl inX12 (by decide) (v := .ref (ad 386)) rfl kx_277 dX12_commandFault_1 ?_
  refine T_iload_n (pc := 4) C dX12_commandFault_4 rfl 1 rfl ?_
  refine T_iconst (pc := 5) C dX12_commandFault_5 ?_
  refine T_czVip (pc := 6) zk.1 hZ C [vi x1, vi 0] [] (fun o h9 hw => ct_X9_valueOf zk σ 386 x1 0 (rfl : kd 386 = 9) h1 (rngL rfl) hw o h9) kx_299 cm_X9_valueOf (rcc (rfl : kd 386 = 9) (by decide) (fun _ => rfl) rfl) rfl rfl (Nat.le_of_ble_eq_true rfl) (by decide) (a' := 0) (b' := 0) ⟨rfl, rfl⟩ dX12_commandFault_6 (fun v1 hv1 => ?_)
  refine T_istore_n (pc := 9) (L' := [(2, vi v1), (0, .ref (ad 0)), (1, vi x1)]) C dX12_commandFault_9 rfl (Nat.le_of_ble_eq_true rfl) rfl ?_
  refine T_aload_n (pc := 10) C dX12_commandFault_10 rfl 1 rfl ?_
  refine Tc_getr (pc := 11) C 0 12 9 13 (rfl : kd 0 = 12) (by decide) (fun _ => rfl) rfl inX12 (by decide) (v := .ref (ad 386)) rfl kx_277 dX12_commandFault_11 ?_
  refine T_iload_n (pc := 14) C dX12_commandFault_14 rfl 2 rfl ?_
  refine T_iconst (pc := 15) C dX12_commandFault_15 ?_
  refine T_czVip (pc := 16) zk.1 hZ C [vi x1, vi 1] [] (fun o h9 hw => ct_X9_valueOf zk σ 386 x1 1 (rfl : kd 386 = 9) h1 (rngL rfl) hw o h9) kx_299 cm_X9_valueOf (rcc (rfl : kd 386 = 9) (by decide) (fun _ => rfl) rfl) rfl rfl (Nat.le_of_ble_eq_true rfl) (by decide) (a' := 0) (b' := 0) ⟨rfl, rfl⟩ dX12_commandFault_16 (fun v2 hv2 => ?_)
  refine T_istore_n (pc := 19) (L' := [(3, vi v2), (2, vi v1), (0, .ref (ad 0)), (1, vi x1)]) C dX12_commandFault_19 rfl (Nat.le_of_ble_eq_true rfl) rfl ?_
  refine T_aload_n (pc := 20) C dX12_commandFault_20 rfl 2 rfl ?_
  refine Tc_getr (pc := 21) C 0 12 9 13 (rfl : kd 0 = 12) (by decide) (fun _ => rfl) rfl inX12 (by decide) (v := .ref (ad 386)) rfl kx_277 dX12_commandFault_21 ?_
  refine T_iload_n (pc := 24) C dX12_commandFault_24 rfl 3 rfl ?_
  refine T_iconst (pc := 25) C dX12_commandFault_25 ?_
  refine T_czVip (pc := 26) zk.1 hZ C [vi x1, vi 2] [] (fun o h9 hw => ct_X9_valueOf zk σ 386 x1 2 (rfl : kd 386 = 9) h1 (rngL rfl) hw o h9) kx_299 cm_X9_valueOf (rcc (rfl : kd 386 = 9) (by decide) (fun _ => rfl) rfl) rfl rfl (Nat.le_of_ble_eq_true rfl) (by decide) (a' := 0) (b' := 0) ⟨rfl, rfl⟩ dX12_commandFault_26 (fun v3 hv3 => ?_)
  refine T_istore (pc := 29) (L' := [(4, vi v3), (3, vi v2), (2, vi v1), (0, .ref (ad 0)), (1, vi x1)]) C dX12_commandFault_29 (Nat.le_of_ble_eq_true rfl) rfl ?_
  refine T_aload_n (pc := 31) C dX12_commandFault_31 rfl 3 rfl ?_
  refine Tc_getr (pc := 32) C 0 12 9 13 (rfl : kd 0 = 12) (by decide) (fun _ => rfl) rfl inX12 (by decide) (v := .ref (ad 386)) rfl kx_277 dX12_commandFault_32 ?_
  refine T_iload_n (pc := 35) C dX12_commandFault_35 rfl 4 rfl ?_
  refine T_iconst (pc := 36) C dX12_commandFault_36 ?_
  refine T_czVip (pc := 37) zk.1 hZ C [vi x1, vi 3] [] (fun o h9 hw => ct_X9_valueOf zk σ 386 x1 3 (rfl : kd 386 = 9) h1 (rngL rfl) hw o h9) kx_299 cm_X9_valueOf (rcc (rfl : kd 386 = 9) (by decide) (fun _ => rfl) rfl) rfl rfl (Nat.le_of_ble_eq_true rfl) (by decide) (a' := 0) (b' := 0) ⟨rfl, rfl⟩ dX12_commandFault_37 (fun v4 hv4 => ?_)
  refine T_istore (pc := 40) (L' := [(5, vi v4), (4, vi v3), (3, vi v2), (2, vi v1), (0, .ref (ad 0)), (1, vi x1)]) C dX12_commandFault_40 (Nat.le_of_ble_eq_true rfl) rfl ?_
  refine T_gettC zy.2.2.2.1 hZ (pc := 42) C kx_300 dX12_commandFault_42 ?_
  refine T_aload_n (pc := 45) C dX12_commandFault_45 rfl 4 rfl ?_
  refine Tc_getr (pc := 46) C 0 12 9 13 (rfl : kd 0 = 12) (by decide) (fun _ => rfl) rfl inX12 (by decide) (v := .ref (ad 386)) rfl kx_277 dX12_commandFault_46 ?_
  refine T_iload_n (pc := 49) C dX12_commandFault_49 rfl 5 rfl ?_
  refine T_czVep (pc := 50) zk.1 hZ C [vi x1] [.ref (E 2 1)] (fun o h9 hw => ct_X9_commandOf zk σ 386 x1 (rfl : kd 386 = 9) h1 hw o h9) kx_301 cm_X9_commandOf (rcc (rfl : kd 386 = 9) (by decide) (fun _ => rfl) rfl) rfl rfl (Nat.le_of_ble_eq_true rfl) (by decide) (a' := 0) (b' := 0) ⟨rfl, rfl⟩ dX12_commandFault_50 (fun v5 hv5 => ?_)
  refine T_ord (pc := 53) zy.2.2.1 zk.1 hZ C [.ref (E 2 1)] (ordC_v hv5).1 (ordC_v hv5).2.1 (ordC_v hv5).2.2 kx_65 kx_302 kx_303 kx_304 kx_69 kx_70 kx_71 (Nat.le_of_ble_eq_true rfl) (by decide) dX12_commandFault_53 ?_
  refine T_taldC zy.2.2.2.1 hZ (pc := 56) C hv5 dX12_commandFault_56 ?_
  refine T_ite (fun c6 => ?_) (fun c6 => ?_)
  · refine T_tswIn (pc := 57) C 1 c6 (rngL rfl) 120 dX12_commandFault_57 (by decide) (by decide) rfl rfl ?_
    refine T_aload_n (pc := 120) C dX12_commandFault_120 rfl 4 rfl ?_
    refine Tc_getr (pc := 121) C 0 12 0 13 (rfl : kd 0 = 12) (by decide) (fun _ => rfl) rfl inX12 (by decide) (v := .ref (ad 1)) rfl kx_84 dX12_commandFault_121 ?_
    refine T_iload_n (pc := 124) C dX12_commandFault_124 rfl 3 rfl ?_
    refine T_czVep (pc := 125) zk.1 hZ C [vi v1] [] (fun o h9 hw => ct_X8_stopFault zk σ 1 v1 (rfl : kd 1 = 8) hv1.1 hw o h9) kx_85 cm_X8_stopFault (rcc (rfl : kd 1 = 8) (by decide) (fun _ => rfl) rfl) rfl rfl (Nat.le_of_ble_eq_true rfl) (by decide) (a' := 0) (b' := 0) ⟨rfl, rfl⟩ dX12_commandFault_125 (fun v7 hv7 => ?_)
    exact T_eret (pc := 128) v7 (fun h9 => h9) hv7 (by decide) dX12_commandFault_128
  refine T_ite (fun c8 => ?_) (fun c8 => ?_)
  · refine T_tswIn (pc := 57) C 2 c8 (rngL rfl) 129 dX12_commandFault_57 (by decide) (by decide) rfl rfl ?_
    refine T_aload_n (pc := 129) C dX12_commandFault_129 rfl 4 rfl ?_
    refine Tc_getr (pc := 130) C 0 12 0 13 (rfl : kd 0 = 12) (by decide) (fun _ => rfl) rfl inX12 (by decide) (v := .ref (ad 1)) rfl kx_84 dX12_commandFault_130 ?_
    refine T_iload_n (pc := 133) C dX12_commandFault_133 rfl 3 rfl ?_
    refine T_iload_n (pc := 134) C dX12_commandFault_134 rfl 2 rfl ?_
    refine T_iload (pc := 135) C dX12_commandFault_135 1 rfl ?_
    refine T_czVep (pc := 137) zk.1 hZ C [vi v1, vi v2, vi v3] [] (fun o h9 hw => ct_X8_walkFault zk σ 1 v1 v2 v3 (rfl : kd 1 = 8) hv1.1 hv2.1 hv3.1 hw o h9) kx_92 cm_X8_walkFault (rcc (rfl : kd 1 = 8) (by decide) (fun _ => rfl) rfl) rfl rfl (Nat.le_of_ble_eq_true rfl) (by decide) (a' := 0) (b' := 0) ⟨rfl, rfl⟩ dX12_commandFault_137 (fun v9 hv9 => ?_)
    exact T_eret (pc := 140) v9 (fun h9 => h9) hv9 (by decide) dX12_commandFault_140
  refine T_ite (fun c10 => ?_) (fun c10 => ?_)
  · refine T_tswIn (pc := 57) C 3 c10 (rngL rfl) 141 dX12_commandFault_57 (by decide) (by decide) rfl rfl ?_
    refine T_aload_n (pc := 141) C dX12_commandFault_141 rfl 4 rfl ?_
    refine Tc_getr (pc := 142) C 0 12 0 13 (rfl : kd 0 = 12) (by decide) (fun _ => rfl) rfl inX12 (by decide) (v := .ref (ad 1)) rfl kx_84 dX12_commandFault_142 ?_
    refine T_iload_n (pc := 145) C dX12_commandFault_145 rfl 3 rfl ?_
    refine T_iload_n (pc := 146) C dX12_commandFault_146 rfl 2 rfl ?_
    refine T_iload (pc := 147) C dX12_commandFault_147 1 rfl ?_
    refine T_iload (pc := 149) C dX12_commandFault_149 0 rfl ?_
    refine T_czVep (pc := 151) zk.1 hZ C [vi v1, vi v2, vi v3, vi v4] [] (fun o h9 hw => ct_X8_lineFault zk σ 1 v1 v2 v3 v4 (rfl : kd 1 = 8) hv1.1 hv2.1 hv3.1 hv4.1 hw o h9) kx_100 cm_X8_lineFault (rcc (rfl : kd 1 = 8) (by decide) (fun _ => rfl) rfl) rfl rfl (Nat.le_of_ble_eq_true rfl) (by decide) (a' := 0) (b' := 0) ⟨rfl, rfl⟩ dX12_commandFault_151 (fun v11 hv11 => ?_)
    exact T_eret (pc := 154) v11 (fun h9 => h9) hv11 (by decide) dX12_commandFault_154
  refine T_ite (fun c12 => ?_) (fun c12 => ?_)
  · refine T_tswIn (pc := 57) C 4 c12 (rngL rfl) 155 dX12_commandFault_57 (by decide) (by decide) rfl rfl ?_
    refine T_aload_n (pc := 155) C dX12_commandFault_155 rfl 4 rfl ?_
    refine Tc_getr (pc := 156) C 0 12 0 13 (rfl : kd 0 = 12) (by decide) (fun _ => rfl) rfl inX12 (by decide) (v := .ref (ad 1)) rfl kx_84 dX12_commandFault_156 ?_
    refine T_iload_n (pc := 159) C dX12_commandFault_159 rfl 3 rfl ?_
    refine T_iload_n (pc := 160) C dX12_commandFault_160 rfl 2 rfl ?_
    refine T_czVep (pc := 161) zk.1 hZ C [vi v1, vi v2] [] (fun o h9 hw => ct_X8_extensionFault zk N σ 1 v1 v2 (rfl : kd 1 = 8) hv1.1 hv2.1 hw o h9) kx_104 cm_X8_extensionFault (rcc (rfl : kd 1 = 8) (by decide) (fun _ => rfl) rfl) rfl rfl (Nat.le_of_ble_eq_true rfl) (by decide) (a' := 0) (b' := 0) ⟨rfl, rfl⟩ dX12_commandFault_161 (fun v13 hv13 => ?_)
    exact T_eret (pc := 164) v13 (fun h9 => h9) hv13 (by decide) dX12_commandFault_164
  refine T_ite (fun c14 => ?_) (fun c14 => ?_)
  · refine T_tswIn (pc := 57) C 5 c14 (rngL rfl) 165 dX12_commandFault_57 (by decide) (by decide) rfl rfl ?_
    refine T_aload_n (pc := 165) C dX12_commandFault_165 rfl 4 rfl ?_
    refine Tc_getr (pc := 166) C 0 12 0 13 (rfl : kd 0 = 12) (by decide) (fun _ => rfl) rfl inX12 (by decide) (v := .ref (ad 1)) rfl kx_84 dX12_commandFault_166 ?_
    refine T_iload_n (pc := 169) C dX12_commandFault_169 rfl 3 rfl ?_
    refine T_czVep (pc := 170) zk.1 hZ C [vi v1] [] (fun o h9 hw => ct_X8_shorteningFault zk N σ 1 v1 (rfl : kd 1 = 8) hv1.1 hw o h9) kx_109 cm_X8_shorteningFault (rcc (rfl : kd 1 = 8) (by decide) (fun _ => rfl) rfl) rfl rfl (Nat.le_of_ble_eq_true rfl) (by decide) (a' := 0) (b' := 0) ⟨rfl, rfl⟩ dX12_commandFault_170 (fun v15 hv15 => ?_)
    exact T_eret (pc := 173) v15 (fun h9 => h9) hv15 (by decide) dX12_commandFault_173
  refine T_ite (fun c16 => ?_) (fun c16 => ?_)
  · refine T_tswIn (pc := 57) C 6 c16 (rngL rfl) 174 dX12_commandFault_57 (by decide) (by decide) rfl rfl ?_
    refine T_aload_n (pc := 174) C dX12_commandFault_174 rfl 4 rfl ?_
    refine Tc_getr (pc := 175) C 0 12 0 13 (rfl : kd 0 = 12) (by decide) (fun _ => rfl) rfl inX12 (by decide) (v := .ref (ad 1)) rfl kx_84 dX12_commandFault_175 ?_
    refine T_iload_n (pc := 178) C dX12_commandFault_178 rfl 3 rfl ?_
    refine T_czVep (pc := 179) zk.1 hZ C [vi v1] [] (fun o h9 hw => ct_X8_stopIndexFault zk σ 1 v1 (rfl : kd 1 = 8) hv1.1 hw o h9) kx_120 cm_X8_stopIndexFault (rcc (rfl : kd 1 = 8) (by decide) (fun _ => rfl) rfl) rfl rfl (Nat.le_of_ble_eq_true rfl) (by decide) (a' := 0) (b' := 0) ⟨rfl, rfl⟩ dX12_commandFault_179 (fun v17 hv17 => ?_)
    exact T_eret (pc := 182) v17 (fun h9 => h9) hv17 (by decide) dX12_commandFault_182
  refine T_ite (fun c18 => ?_) (fun c18 => ?_)
  · refine T_tswIn (pc := 57) C 7 c18 (rngL rfl) 174 dX12_commandFault_57 (by decide) (by decide) rfl rfl ?_
    refine T_aload_n (pc := 174) C dX12_commandFault_174 rfl 4 rfl ?_
    refine Tc_getr (pc := 175) C 0 12 0 13 (rfl : kd 0 = 12) (by decide) (fun _ => rfl) rfl inX12 (by decide) (v := .ref (ad 1)) rfl kx_84 dX12_commandFault_175 ?_
    refine T_iload_n (pc := 178) C dX12_commandFault_178 rfl 3 rfl ?_
    refine T_czVep (pc := 179) zk.1 hZ C [vi v1] [] (fun o h9 hw => ct_X8_stopIndexFault zk σ 1 v1 (rfl : kd 1 = 8) hv1.1 hw o h9) kx_120 cm_X8_stopIndexFault (rcc (rfl : kd 1 = 8) (by decide) (fun _ => rfl) rfl) rfl rfl (Nat.le_of_ble_eq_true rfl) (by decide) (a' := 0) (b' := 0) ⟨rfl, rfl⟩ dX12_commandFault_179 (fun v19 hv19 => ?_)
    exact T_eret (pc := 182) v19 (fun h9 => h9) hv19 (by decide) dX12_commandFault_182
  refine T_ite (fun c20 => ?_) (fun c20 => ?_)
  · refine T_tswIn (pc := 57) C 8 c20 (rngL rfl) 183 dX12_commandFault_57 (by decide) (by decide) rfl rfl ?_
    refine T_aload_n (pc := 183) C dX12_commandFault_183 rfl 4 rfl ?_
    refine Tc_getr (pc := 184) C 0 12 0 13 (rfl : kd 0 = 12) (by decide) (fun _ => rfl) rfl inX12 (by decide) (v := .ref (ad 1)) rfl kx_84 dX12_commandFault_184 ?_
    refine T_iload_n (pc := 187) C dX12_commandFault_187 rfl 3 rfl ?_
    refine T_czVep (pc := 188) zk.1 hZ C [vi v1] [] (fun o h9 hw => ct_X8_lineIndexFault zk σ 1 v1 (rfl : kd 1 = 8) hv1.1 hw o h9) kx_124 cm_X8_lineIndexFault (rcc (rfl : kd 1 = 8) (by decide) (fun _ => rfl) rfl) rfl rfl (Nat.le_of_ble_eq_true rfl) (by decide) (a' := 0) (b' := 0) ⟨rfl, rfl⟩ dX12_commandFault_188 (fun v21 hv21 => ?_)
    exact T_eret (pc := 191) v21 (fun h9 => h9) hv21 (by decide) dX12_commandFault_191
  refine T_ite (fun c22 => ?_) (fun c22 => ?_)
  · refine T_tswIn (pc := 57) C 9 c22 (rngL rfl) 183 dX12_commandFault_57 (by decide) (by decide) rfl rfl ?_
    refine T_aload_n (pc := 183) C dX12_commandFault_183 rfl 4 rfl ?_
    refine Tc_getr (pc := 184) C 0 12 0 13 (rfl : kd 0 = 12) (by decide) (fun _ => rfl) rfl inX12 (by decide) (v := .ref (ad 1)) rfl kx_84 dX12_commandFault_184 ?_
    refine T_iload_n (pc := 187) C dX12_commandFault_187 rfl 3 rfl ?_
    refine T_czVep (pc := 188) zk.1 hZ C [vi v1] [] (fun o h9 hw => ct_X8_lineIndexFault zk σ 1 v1 (rfl : kd 1 = 8) hv1.1 hw o h9) kx_124 cm_X8_lineIndexFault (rcc (rfl : kd 1 = 8) (by decide) (fun _ => rfl) rfl) rfl rfl (Nat.le_of_ble_eq_true rfl) (by decide) (a' := 0) (b' := 0) ⟨rfl, rfl⟩ dX12_commandFault_188 (fun v23 hv23 => ?_)
    exact T_eret (pc := 191) v23 (fun h9 => h9) hv23 (by decide) dX12_commandFault_191
  refine T_ite (fun c24 => ?_) (fun c24 => ?_)
  · refine T_tswIn (pc := 57) C 10 c24 (rngL rfl) 192 dX12_commandFault_57 (by decide) (by decide) rfl rfl ?_
    refine T_aload_n (pc := 192) C dX12_commandFault_192 rfl 4 rfl ?_
    refine Tc_getr (pc := 193) C 0 12 0 13 (rfl : kd 0 = 12) (by decide) (fun _ => rfl) rfl inX12 (by decide) (v := .ref (ad 1)) rfl kx_84 dX12_commandFault_193 ?_
    refine T_iload_n (pc := 196) C dX12_commandFault_196 rfl 3 rfl ?_
    refine T_iload_n (pc := 197) C dX12_commandFault_197 rfl 2 rfl ?_
    refine T_iload (pc := 198) C dX12_commandFault_198 1 rfl ?_
    refine T_iload (pc := 200) C dX12_commandFault_200 0 rfl ?_
    refine T_czVep (pc := 202) zk.1 hZ C [vi v1, vi v2, vi v3, vi v4] [] (fun o h9 hw => ct_X8_saleFault zk N σ 1 v1 v2 v3 v4 (rfl : kd 1 = 8) hv1.1 hv2.1 hv3.1 hv4.1 hw o h9) kx_128 cm_X8_saleFault (rcc (rfl : kd 1 = 8) (by decide) (fun _ => rfl) rfl) rfl rfl (Nat.le_of_ble_eq_true rfl) (by decide) (a' := 0) (b' := 0) ⟨rfl, rfl⟩ dX12_commandFault_202 (fun v25 hv25 => ?_)
    exact T_eret (pc := 205) v25 (fun h9 => h9) hv25 (by decide) dX12_commandFault_205
  refine T_ite (fun c26 => ?_) (fun c26 => ?_)
  · refine T_tswIn (pc := 57) C 11 c26 (rngL rfl) 206 dX12_commandFault_57 (by decide) (by decide) rfl rfl ?_
    refine T_aload_n (pc := 206) C dX12_commandFault_206 rfl 4 rfl ?_
    refine Tc_getr (pc := 207) C 0 12 0 13 (rfl : kd 0 = 12) (by decide) (fun _ => rfl) rfl inX12 (by decide) (v := .ref (ad 1)) rfl kx_84 dX12_commandFault_207 ?_
    refine Tc_getr (pc := 210) C 1 8 9 10 (rfl : kd 1 = 8) (by decide) (fun _ => rfl) rfl inX8 (by decide) (v := .ref (ad 6)) rfl kx_132 dX12_commandFault_210 ?_
    refine T_iload_n (pc := 213) C dX12_commandFault_213 rfl 3 rfl ?_
    refine T_czVip (pc := 214) zk.1 hZ C [vi v1] [] (fun o h9 hw => ct_X11_placeOfId zk N σ 6 v1 (kd_8 (rfl : kd 1 = 8)).2.2.2.2.1 hv1.1 hw o h9) kx_133 cm_X11_placeOfId (rcc (kd_8 (rfl : kd 1 = 8)).2.2.2.2.1 (by decide) (fun _ => rfl) rfl) rfl rfl (Nat.le_of_ble_eq_true rfl) (by decide) (a' := 0) (b' := 0) ⟨rfl, rfl⟩ dX12_commandFault_214 (fun v27 hv27 => ?_)
    refine T_iconst (pc := 217) C dX12_commandFault_217 ?_
    refine T_icmp_ne (pc := 218) C 227 dX12_commandFault_218 rfl hv27.1 (rngL rfl) (fun c28 => ?_) (fun c28 => ?_)
    · refine T_gets zk.2 hZ (pc := 227) C 0 0 rfl (by decide) kx_307 dX12_commandFault_227 ?_
      exact T_eret (pc := 230) 0 (fun h9 => h9) (by decide) (by decide) dX12_commandFault_230
    · refine T_gets zk.2 hZ (pc := 221) C 4 4 rfl (by decide) kx_308 dX12_commandFault_221 ?_
      refine T_goto (pc := 224) C 230 dX12_commandFault_224 rfl ?_
      exact T_eret (pc := 230) 4 (fun h9 => h9) (by decide) (by decide) dX12_commandFault_230
  refine T_ite (fun c29 => ?_) (fun c29 => ?_)
  · refine T_tswIn (pc := 57) C 12 c29 (rngL rfl) 231 dX12_commandFault_57 (by decide) (by decide) rfl rfl ?_
    refine T_aload_n (pc := 231) C dX12_commandFault_231 rfl 4 rfl ?_
    refine Tc_getr (pc := 232) C 0 12 0 13 (rfl : kd 0 = 12) (by decide) (fun _ => rfl) rfl inX12 (by decide) (v := .ref (ad 1)) rfl kx_84 dX12_commandFault_232 ?_
    refine T_iload_n (pc := 235) C dX12_commandFault_235 rfl 3 rfl ?_
    refine T_czVep (pc := 236) zk.1 hZ C [vi v1] [] (fun o h9 hw => ct_X8_waitFault zk σ 1 v1 (rfl : kd 1 = 8) hv1.1 hw o h9) kx_140 cm_X8_waitFault (rcc (rfl : kd 1 = 8) (by decide) (fun _ => rfl) rfl) rfl rfl (Nat.le_of_ble_eq_true rfl) (by decide) (a' := 0) (b' := 0) ⟨rfl, rfl⟩ dX12_commandFault_236 (fun v30 hv30 => ?_)
    exact T_eret (pc := 239) v30 (fun h9 => h9) hv30 (by decide) dX12_commandFault_239
  refine T_tswOut (pc := 57) C (swc_rng _) 240 dX12_commandFault_57 (by omega) rfl ?_
  refine T_gets zk.2 hZ (pc := 240) C 0 0 rfl (by decide) kx_307 dX12_commandFault_240 ?_
  exact T_eret (pc := 243) 0 (fun h9 => h9) (by decide) (by decide) dX12_commandFault_243

abbrev rm_X12_carryOutAll : Room := ⟨5, 0, 0, 124⟩
theorem cm_X12_carryOutAll : cmV yX12_carryOutAll cX12_carryOutAll 2 (some .int) 0 := ⟨kx_58, kx_82, ⟨by decide +kernel, by decide +kernel, by decide +kernel⟩, kx_314, kx_315⟩
def f_X12_carryOutAll_2 (N : Nat) : Nat → Sm → Int → Option ((Sm × Int) ⊕ Sm)
  | 0, _, _ => none
  | n + 1, s0, x1 => (if (s0 386 2) ≤ x1 then some (.inr s0) else (f_X12_commandFault N s0 x1).bind fun v8 => (if v8 = 0 then (f_X12_carryOut N s0 x1).bind fun s10 => f_X12_carryOutAll_2 N n s10 (x1 + 1) else some (.inl (s0, x1))))
theorem lp_X12_carryOutAll_2 {X : vjX} {A : Nat → Prop} {Q : State → Prop} {cy : Nat → ClassId} {ad : Nat → Nat} {E : Nat → Nat → Nat} {G : va_G} {Z : vZ} {sa : Nat → Nat} (zk : Zk Z E) (zy : Zy Z E sa) (hZ : Zx Z X (Yc cy ad E G A 2 Q)) (C : Cx X (Yc cy ad E G A 2 Q) cX12_carryOutAll RX12 (some .int) rm_X12_carryOutAll (tyc cy)) (N : Nat) : ∀ (n : Nat) (s0 : Sm) (x1 : Int) (h1 : rng x1), T X (Yc cy ad E G A 2 Q) (Sum.elim (fun w => EndI X (Yc cy ad E G A 2 Q) cX12_carryOutAll rm_X12_carryOutAll .int w) (fun (q : Sm) => True → J X (Yc cy ad E G A 2 Q) 0 0 37 [] [] q)) 0 0 2 [(0, .ref (ad 0)), (1, vi x1)] [] s0 (f_X12_carryOutAll_2 N n s0 x1) := by
  intro n
  induction n with
  | zero => intro s0 x1 h1; exact T_none
  | succ n ih =>
    intro s0 x1 h1
    rw [f_X12_carryOutAll_2]
    refine T_iload_n (pc := 2) C dX12_carryOutAll_2 rfl 1 rfl ?_
    refine T_aload_n (pc := 3) C dX12_carryOutAll_3 rfl 0 rfl ?_
    refine Tc_getr (pc := 4) C 0 12 9 13 (rfl : kd 0 = 12) (by decide) (fun _ => rfl) rfl inX12 (by decide) (v := .ref (ad 386)) rfl kx_277 dX12_carryOutAll_4 ?_
    refine Tc_geti (pc := 7) C 386 9 2 6 (rfl : kd 386 = 9) (by decide) (fun _ => rfl) rfl inX9 (by decide) rfl kx_311 dX12_carryOutAll_7 (fun z6 => ?_)
    refine T_icmp_ge (pc := 10) C 37 dX12_carryOutAll_10 rfl h1 z6 (fun c7 => ?_) (fun c7 => ?_)
    · refine T_sub (L' := []) [] rfl ?_
      exact T_exit (fun h9 => h9 trivial)
    · refine T_aload_n (pc := 13) C dX12_carryOutAll_13 rfl 0 rfl ?_
      refine T_iload_n (pc := 14) C dX12_carryOutAll_14 rfl 1 rfl ?_
      refine T_czVep (pc := 15) zk.1 hZ C [vi x1] [] (fun o h9 hw => ct_X12_commandFault zk zy N s0 x1 h1 hw o h9) kx_312 cm_X12_commandFault (rcc (rfl : kd 0 = 12) (by decide) (fun _ => rfl) rfl) rfl rfl (Nat.le_of_ble_eq_true rfl) (by decide) (a' := 0) (b' := 0) ⟨rfl, rfl⟩ dX12_carryOutAll_15 (fun v8 hv8 => ?_)
      refine T_gets zk.2 hZ (pc := 18) C 0 0 rfl (by decide) kx_307 dX12_carryOutAll_18 ?_
      refine T_acmp_eq zk.2 hZ (pc := 21) C 26 dX12_carryOutAll_21 rfl hv8 (by decide) (fun c9 => ?_) (fun c9 => ?_)
      · refine T_aload_n (pc := 26) C dX12_carryOutAll_26 rfl 0 rfl ?_
        refine T_iload_n (pc := 27) C dX12_carryOutAll_27 rfl 1 rfl ?_
        refine T_czVv (pc := 28) zk.1 hZ C [vi x1] [] (fun o h9 hw => ct_X12_carryOut zk zy N s0 x1 h1 hw o h9) kx_313 cm_X12_carryOut (rcc (rfl : kd 0 = 12) (by decide) (fun _ => rfl) rfl) rfl rfl (Nat.le_of_ble_eq_true rfl) (by decide) (a' := 0) (b' := 0) ⟨rfl, rfl⟩ dX12_carryOutAll_28 (fun s10 => ?_)
        refine T_iinc (pc := 31) (L' := [(1, vi (x1 + 1)), (0, .ref (ad 0))]) C dX12_carryOutAll_31 (Nat.le_of_ble_eq_true rfl) 1 rfl rfl ?_
        refine T_goto (pc := 34) C 2 dX12_carryOutAll_34 rfl ?_
        refine T_sub (L' := [(0, .ref (ad 0)), (1, vi (x1 + 1))]) [1, 0] rfl ?_
        exact ih s10 (x1 + 1) (rng_inc c7 h1 z6)
      · refine T_iload_n (pc := 24) C dX12_carryOutAll_24 rfl 1 rfl ?_
        exact T_iret (pc := 25) (Sum.inl (s0, x1)) (fun h9 => h9) h1 (nar_I _) (by decide) dX12_carryOutAll_25
def f_X12_carryOutAll (N : Nat) (σ : Sm) : Option (Sm × Int) :=
  (f_X12_carryOutAll_2 N N σ 0).bind (Sum.elim (fun v => some v) fun q11 => some (q11, (-1)))
theorem ct_X12_carryOutAll {l : Launch} {cy : Nat → ClassId} {ad : Nat → Nat} {E : Nat → Nat → Nat} {G : va_G} {Z : vZ} {sa : Nat → Nat} (zk : Zk Z E) (zy : Zy Z E sa) (N : Nat) (σ : Sm) (hw : wfc σ) (o : Sm × Int) (h : f_X12_carryOutAll N σ = some o) : CzI Z l yX12_carryOutAll cX12_carryOutAll 2 (some .int) rm_X12_carryOutAll (wlc cy ad E) wfc G (tyc cy) [.ref (ad 0)] σ o.1 o.2 := by
  refine czI_of zk.1 (plainFor_of_name (by decide)) (Nat.le_of_ble_eq_true rfl) hw o o h (fun X Y w => EndI X Y cX12_carryOutAll rm_X12_carryOutAll .int w) (fun _ _ h => h) (fun X A Q hZ hX C => ?_)
  replace C : Cx X (Yc cy ad E G A 2 Q) cX12_carryOutAll RX12 (some .int) rm_X12_carryOutAll (tyc cy) := C
  replace hZ : Zx Z X (Yc cy ad E G A 2 Q) := hZ
  show T X (Yc cy ad E G A 2 Q) (fun w => EndI X (Yc cy ad E G A 2 Q) cX12_carryOutAll rm_X12_carryOutAll .int w) 0 0 0 [(0, .ref (ad 0))] [] σ (f_X12_carryOutAll N σ)
  unfold f_X12_carryOutAll
  refine T_iconst (pc := 0) C dX12_carryOutAll_0 ?_
  refine T_istore_n (pc := 1) (L' := [(1, vi 0), (0, .ref (ad 0))]) C dX12_carryOutAll_1 rfl (Nat.le_of_ble_eq_true rfl) rfl ?_
  refine T_sub (L' := [(0, .ref (ad 0)), (1, vi 0)]) [1, 0] rfl ?_
  refine T_loopS (g := fun v => v) (lp_X12_carryOutAll_2 zk zy hZ C N N σ 0 (rngL rfl)) (fun v h9 => h9) (fun q11 hq11 => ?_)
  refine T_iconst (pc := 37) C dX12_carryOutAll_37 ?_
  exact T_iret (pc := 38) (q11, (-1)) (fun h9 => h9) (rngL rfl) (nar_I _) (by decide) dX12_carryOutAll_38
