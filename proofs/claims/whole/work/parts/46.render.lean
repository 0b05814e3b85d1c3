theorem kr_0 : Cond.fieldLink RX12 10 "RingTransit" "network" "LRingTransit$Network;" ∈ lwG := lwG_of (tb_2 (List.mem_of_getElem? (i := 133) (by decide +kernel))) (by decide +kernel)
theorem kr_1 : Cond.methodLink RX12 153 yX8_lineIndexFault ∈ lwG := lwG_of (tb_5 (List.mem_of_getElem? (i := 13) (by decide +kernel))) (by decide +kernel)
theorem kr_2 : Cond.methodLink RX12 82 yX12_refuse ∈ lwG := lwG_of (tb_3 (List.mem_of_getElem? (i := 192) (by decide +kernel))) (by decide +kernel)
theorem kr_3 : Cond.fieldLink RX12 121 "RingTransit$Network" "lines" "[LRingTransit$Line;" ∈ lwG := lwG_of (tb_1 (List.mem_of_getElem? (i := 199) (by decide +kernel))) (by decide +kernel)
theorem kr_4 : Cond.fieldLink RX12 74 "RingTransit" "output" "Ljava/lang/StringBuilder;" ∈ lwG := lwG_of (tb_2 (List.mem_of_getElem? (i := 145) (by decide +kernel))) (by decide +kernel)
theorem kr_5 : Cond.methodLink RX12 367 yJ4_setLength_d00df ∈ lwG := lwG_of (tb_6 (List.mem_of_getElem? (i := 153) (by decide +kernel))) (by decide +kernel)
theorem kr_6 : Cond.selects RJ4 yJ4_setLength_d00df yJ4_setLength_d00df ∈ lwG := lwG_of (tb_6 (List.mem_of_getElem? (i := 155) (by decide +kernel))) (by decide +kernel)
theorem kr_7 : Cond.fieldLink RX12 371 "RingTransit$Line" "headway" "I" ∈ lwG := lwG_of (tb_1 (List.mem_of_getElem? (i := 137) (by decide +kernel))) (by decide +kernel)
theorem kr_8 : Cond.methodLink RX12 374 yJ4_append_bf812 ∈ lwG := lwG_of (tb_7 (List.mem_of_getElem? (i := 164) (by decide +kernel))) (by decide +kernel)
theorem kr_9 : Cond.selects RJ4 yJ4_append_bf812 yJ4_append_bf812 ∈ lwG := lwG_of (tb_7 (List.mem_of_getElem? (i := 44) (by decide +kernel))) (by decide +kernel)
theorem kr_10 : Cond.methodLink RX12 377 yJ4_append_cf468 ∈ lwG := lwG_of (tb_7 (List.mem_of_getElem? (i := 165) (by decide +kernel))) (by decide +kernel)
theorem kr_11 : Cond.selects RJ4 yJ4_append_cf468 yJ4_append_cf468 ∈ lwG := lwG_of (tb_7 (List.mem_of_getElem? (i := 167) (by decide +kernel))) (by decide +kernel)
theorem kr_12 : Cond.fieldLink RX12 380 "RingTransit$Line" "offset" "I" ∈ lwG := lwG_of (tb_1 (List.mem_of_getElem? (i := 139) (by decide +kernel))) (by decide +kernel)
theorem kr_13 : Cond.fieldLink RX12 137 "RingTransit$Network" "raining" "Z" ∈ lwG := lwG_of (tb_1 (List.mem_of_getElem? (i := 177) (by decide +kernel))) (by decide +kernel)
theorem kr_14 : Cond.methodLink RX12 224 yX7_pace ∈ lwG := lwG_of (tb_5 (List.mem_of_getElem? (i := 145) (by decide +kernel))) (by decide +kernel)
theorem kr_15 : Cond.fieldLink RX12 383 "RingTransit$Line" "seats" "I" ∈ lwG := lwG_of (tb_1 (List.mem_of_getElem? (i := 146) (by decide +kernel))) (by decide +kernel)
theorem kr_16 : Cond.fieldLink RX12 199 "RingTransit$Line" "size" "I" ∈ lwG := lwG_of (tb_1 (List.mem_of_getElem? (i := 153) (by decide +kernel))) (by decide +kernel)
theorem kr_17 : Cond.fieldLink RX12 156 "RingTransit$Line" "suspended" "Z" ∈ lwG := lwG_of (tb_1 (List.mem_of_getElem? (i := 148) (by decide +kernel))) (by decide +kernel)
theorem kr_18 : Cond.methodLink RX12 389 yJ4_length_8abf5 ∈ lwG := lwG_of (tb_7 (List.mem_of_getElem? (i := 187) (by decide +kernel))) (by decide +kernel)
theorem kr_19 : Cond.selects RJ4 yJ4_length_8abf5 yJ4_length_8abf5 ∈ lwG := lwG_of (tb_11 (List.mem_of_getElem? (i := 43) (by decide +kernel))) (by decide +kernel)
theorem kr_20 : Cond.fieldLink RX12 386 "RingTransit$Line" "ring" "[I" ∈ lwG := lwG_of (tb_1 (List.mem_of_getElem? (i := 155) (by decide +kernel))) (by decide +kernel)
theorem kr_21 : Cond.code yX12_renderLine cX12_renderLine 4 (some .int) ∈ lwG := lwG_of (tb_6 (List.mem_of_getElem? (i := 152) (by decide +kernel))) (by decide +kernel)
theorem kr_22 : Cond.initialized RX12 ∈ lwG := lwG_of (tb_1 (List.mem_of_getElem? (i := 1) (by decide +kernel))) (by decide +kernel)
theorem kr_23 : Cond.instanceMethod yX12_renderLine ∈ lwG := lwG_of (tb_6 (List.mem_of_getElem? (i := 150) (by decide +kernel))) (by decide +kernel)
theorem kr_24 : Cond.selects yX12_renderLine.cls yX12_renderLine yX12_renderLine ∈ lwG := lwG_of (tb_6 (List.mem_of_getElem? (i := 151) (by decide +kernel))) (by decide +kernel)
theorem kr_25 : Cond.fieldLink RX12 168 "RingTransit$Network" "tickets" "LRingTransit$Tickets;" ∈ lwG := lwG_of (tb_1 (List.mem_of_getElem? (i := 203) (by decide +kernel))) (by decide +kernel)
theorem kr_26 : Cond.fieldLink RX12 304 "RingTransit$Tickets" "row" "[LRingTransit$Ticket;" ∈ lwG := lwG_of (tb_1 (List.mem_of_getElem? (i := 106) (by decide +kernel))) (by decide +kernel)
theorem kr_27 : Cond.methodLink RX12 165 yX12_knownTicket ∈ lwG := lwG_of (tb_5 (List.mem_of_getElem? (i := 49) (by decide +kernel))) (by decide +kernel)
theorem kr_28 : Cond.fieldLink RX12 308 "RingTransit$Ticket" "id" "I" ∈ lwG := lwG_of (tb_1 (List.mem_of_getElem? (i := 70) (by decide +kernel))) (by decide +kernel)
theorem kr_29 : Cond.fieldLink RX12 313 "RingTransit$Ticket" "line" "I" ∈ lwG := lwG_of (tb_1 (List.mem_of_getElem? (i := 74) (by decide +kernel))) (by decide +kernel)
theorem kr_30 : Cond.fieldLink RX12 316 "RingTransit$Ticket" "trip" "I" ∈ lwG := lwG_of (tb_1 (List.mem_of_getElem? (i := 78) (by decide +kernel))) (by decide +kernel)
theorem kr_31 : Cond.fieldLink RX12 319 "RingTransit$Ticket" "from" "I" ∈ lwG := lwG_of (tb_1 (List.mem_of_getElem? (i := 81) (by decide +kernel))) (by decide +kernel)
theorem kr_32 : Cond.fieldLink RX12 322 "RingTransit$Ticket" "to" "I" ∈ lwG := lwG_of (tb_1 (List.mem_of_getElem? (i := 85) (by decide +kernel))) (by decide +kernel)
theorem kr_33 : Cond.fieldLink RX12 325 "RingTransit$Ticket" "price" "I" ∈ lwG := lwG_of (tb_1 (List.mem_of_getElem? (i := 88) (by decide +kernel))) (by decide +kernel)
theorem kr_34 : Cond.code yX12_renderTicket cX12_renderTicket 3 (some .int) ∈ lwG := lwG_of (tb_7 (List.mem_of_getElem? (i := 194) (by decide +kernel))) (by decide +kernel)
theorem kr_35 : Cond.instanceMethod yX12_renderTicket ∈ lwG := lwG_of (tb_7 (List.mem_of_getElem? (i := 192) (by decide +kernel))) (by decide +kernel)
theorem kr_36 : Cond.selects yX12_renderTicket.cls yX12_renderTicket yX12_renderTicket ∈ lwG := lwG_of (tb_7 (List.mem_of_getElem? (i := 193) (by decide +kernel))) (by decide +kernel)
theorem kr_37 : Cond.classLink RX12 301 "java/lang/IndexOutOfBoundsException" ∈ lwG := lwG_of (tb_3 (List.mem_of_getElem? (i := 203) (by decide +kernel))) (by decide +kernel)
theorem kr_38 : Cond.initialized "java/lang/IndexOutOfBoundsException" ∈ lwG := lwG_of (tb_1 (List.mem_of_getElem? (i := 23) (by decide +kernel))) (by decide +kernel)
theorem kr_39 : Cond.methodLink RX12 394 yJ4_charAt_5068e ∈ lwG := lwG_of (tb_7 (List.mem_of_getElem? (i := 203) (by decide +kernel))) (by decide +kernel)
theorem kr_40 : Cond.selects RJ4 yJ4_charAt_5068e yJ4_charAt_5068e ∈ lwG := lwG_of (tb_7 (List.mem_of_getElem? (i := 205) (by decide +kernel))) (by decide +kernel)
theorem kr_41 : Cond.code yX12_outputAt cX12_outputAt 2 (some .char) ∈ lwG := lwG_of (tb_7 (List.mem_of_getElem? (i := 201) (by decide +kernel))) (by decide +kernel)
theorem kr_42 : Cond.instanceMethod yX12_outputAt ∈ lwG := lwG_of (tb_7 (List.mem_of_getElem? (i := 199) (by decide +kernel))) (by decide +kernel)
theorem kr_43 : Cond.selects yX12_outputAt.cls yX12_outputAt yX12_outputAt ∈ lwG := lwG_of (tb_7 (List.mem_of_getElem? (i := 200) (by decide +kernel))) (by decide +kernel)
theorem T_bindP {O P : Type} {X : vjX} {kp : O → Prop} {a b pc : Nat} {L : List (Nat × Value)} {st : List Value} {S : Type} {Y : vjY S} {σ : S} {f : Option P} {k : P → Option O} (K : ∀ p, f = some p → T X Y kp a b pc L st σ (k p)) : T X Y kp a b pc L st σ (f.bind k) := fun w h hk => by
  obtain ⟨p, hp, h2⟩ := Option.bind_eq_some_iff.mp h
  exact K p hp w h2 hk
abbrev rm_X12_renderLine : Room := ⟨7, 60, 6000, 135⟩
theorem cm_X12_renderLine : cmV yX12_renderLine cX12_renderLine 4 (some .int) 1 := ⟨kr_21, kr_22, ⟨by decide +kernel, by decide +kernel, by decide +kernel⟩, kr_23, kr_24⟩
theorem ct_X12_renderLine {l : Launch} {cy : Nat → ClassId} {ad : Nat → Nat} {E : Nat → Nat → Nat} {G : va_G} {Z : vZ} {sa : Nat → Nat} (zk : Zk Z E) (zy : Zy Z E sa) (zs : ZS Z E) (zp : ZP Z) (zd : ZD Z E) (hst : l.stackTraces = false) (σ : Sm) (x1 : Int) (h1 : rng x1) (t0 : List Int) (hB0 : BI σ t0) (hw : wfc σ) (o : Sy) (h : f_X12_renderLine σ x1 = some o) : CyI Z l yX12_renderLine cX12_renderLine 4 (some .int) rm_X12_renderLine cy ad E G [.ref (ad 0), vi x1] σ o := by
  refine cyI_of zk.1 zy.1 hst (by decide) (Nat.le_of_ble_eq_true rfl) hw o h (fun X A Q hZ hX C => ?_)
  replace hst : X.2.1.stackTraces = false := by rw [hX]; exact hst
  replace C : Cx X (Yc cy ad E G A 4 Q) cX12_renderLine RX12 (some .int) rm_X12_renderLine (tyc cy) := C
  replace hZ : Zx Z X (Yc cy ad E G A 4 Q) := hZ
  show T X (Yc cy ad E G A 4 Q) (fun w => EndYI X (Yc cy ad E G A 4 Q) cX12_renderLine rm_X12_renderLine .int w ∧ EndX X (Yc cy ad E G A 4 Q) cX12_renderLine RX12 rm_X12_renderLine w.1) 0 0 0 [(0, .ref (ad 0)), (1, vi x1)] [] σ (f_X12_renderLine σ x1)
  unfold f_X12_renderLine
  refine T_aload_n (pc := 0) C dX12_renderLine_0 rfl 0 rfl ?_
  refine Tc_getr (pc := 1) C 0 12 0 13 (rfl : kd 0 = 12) (by decide) (fun _ => rfl) rfl inX12 (by decide) (v := .ref (ad 1)) rfl kr_0 dX12_renderLine_1 ?_
  refine T_iload_n (pc := 4) C dX12_renderLine_4 rfl 1 rfl ?_
  refine T_czVep (pc := 5) zk.1 hZ C [vi x1] [] (fun o h9 hw => ct_X8_lineIndexFault zk σ 1 x1 (rfl : kd 1 = 8) h1 hw o h9) kr_1 cm_X8_lineIndexFault (rcc (rfl : kd 1 = 8) (by decide) (fun _ => rfl) rfl) rfl rfl (Nat.le_of_ble_eq_true rfl) (by decide) (a' := 0) (b' := 0) ⟨rfl, rfl⟩ dX12_renderLine_5 (fun v1 hv1 => ?_)
  refine T_cxSvF (pc := 8) zk.1 hZ C [ve E 0 v1] [] (fun o h9 hw => ct_X12_refuse zk zy hst σ v1 hv1 hw o h9) kr_2 cm_X12_refuse rfl rfl (Nat.le_of_ble_eq_true rfl) (by decide) (a' := 1) (b' := 6) ⟨rfl, rfl⟩ dX12_renderLine_8 (g := fun o => (xw o, [])) (fun o h9 h8 => (h9.2 h8).1) (fun v2 f2 => ?_)
  rw [refuse_st f2]
  refine T_guard (fun g3 => ?_)
  refine T_bindP (fun p hp => ?_)
  refine T_guard (fun g4 => ?_)
  obtain ⟨⟨ga, gb, gp, gs, gz, gz6⟩, gr, gl⟩ := g4
  refine T_aload_n (pc := 11) C dX12_renderLine_11 rfl 0 rfl ?_
  refine Tc_getr (pc := 12) C 0 12 0 13 (rfl : kd 0 = 12) (by decide) (fun _ => rfl) rfl inX12 (by decide) (v := .ref (ad 1)) rfl kr_0 dX12_renderLine_12 ?_
  refine Tc_getr (pc := 15) C 1 8 8 10 (rfl : kd 1 = 8) (by decide) (fun _ => rfl) rfl inX8 (by decide) (v := .ref (ad 5)) rfl kr_3 dX12_renderLine_15 ?_
  refine T_iload_n (pc := 18) C dX12_renderLine_18 rfl 1 rfl ?_
  refine Tc_ald27 (pc := 19) C 1 (rfl : kd 1 = 8) g3 dX12_renderLine_19 (fun y4 => ?_)
  have nr0 : ¬ (1 + 23 + 2 * x1.toNat) = 390 ∧ ¬ (1 + 23 + 2 * x1.toNat) = 391 ∧ ¬ (1 + 23 + 2 * x1.toNat) + 1 = 390 ∧ ¬ (1 + 23 + 2 * x1.toNat) + 1 = 391 := by omega
  have y5 : kd ((1 + 23 + 2 * x1.toNat) + 1) = 22 := kd_7 y4
  have hO : offB σ σ := offB.refl σ
  have hB := hB0
  refine T_astore_n (pc := 20) (L' := [(2, .ref (ad (1 + 23 + 2 * x1.toNat))), (0, .ref (ad 0)), (1, vi x1)]) C dX12_renderLine_20 rfl (Nat.le_of_ble_eq_true rfl) rfl ?_
  refine T_aload_n (pc := 21) C dX12_renderLine_21 rfl 1 rfl ?_
  refine Tc_getr (pc := 22) C 0 12 12 13 (rfl : kd 0 = 12) (by decide) (fun _ => rfl) rfl inX12 (by decide) (v := .ref (ad 390)) rfl kr_4 dX12_renderLine_22 ?_
  refine T_iconst (pc := 25) C dX12_renderLine_25 ?_
  refine T_bV (pc := 26) zk.1 hZ C [vi 0] [] (runBV C [vi 0] [] kr_5 cmb_J4_setLength_d00df (C.2.2.2.2.1 _ kr_6) rfl rfl (Nat.le_of_ble_eq_true rfl) (by decide) dX12_renderLine_26) (fun hw => cb_J4_setLength_d00df zk.1 zs zp _ hB hw) (a' := 2) (b' := 208) ⟨rfl, rfl⟩ (fun τ hR => ?_)
  replace hO := hO.trans hR.1
  replace hB := hR.2
  clear hR
  refine T_aload_n (pc := 29) C dX12_renderLine_29 rfl 1 rfl ?_
  refine Tc_getr (pc := 30) C 0 12 12 13 (rfl : kd 0 = 12) (by decide) (fun _ => rfl) rfl inX12 (by decide) (v := .ref (ad 390)) rfl kr_4 dX12_renderLine_30 ?_
  refine T_aload_n (pc := 33) C dX12_renderLine_33 rfl 0 rfl ?_
  refine Tc_geti (pc := 34) C (1 + 23 + 2 * x1.toNat) 7 0 8 y4 (by decide) (fun _ => rfl) rfl inX7 (by decide) rfl kr_7 dX12_renderLine_34 (fun z0 => ?_)
  rw [congrFun (hO (1 + 23 + 2 * x1.toNat) nr0.1 nr0.2.1) 0]
  have w0 : rng (σ (1 + 23 + 2 * x1.toNat) 0) := by rw [← congrFun (hO (1 + 23 + 2 * x1.toNat) nr0.1 nr0.2.1) 0]; exact z0.1
  refine T_bQ (pc := 37) zk.1 hZ C [vi (((σ (1 + 23 + 2 * x1.toNat) 0).toNat : Nat) : Int)] [] (runBV C [vi (((σ (1 + 23 + 2 * x1.toNat) 0).toNat : Nat) : Int)] [] kr_8 cmb_J4_append_bf812 (C.2.2.2.2.1 _ kr_9) rfl (by rw [Int.toNat_of_nonneg ga]; rfl) (Nat.le_of_ble_eq_true rfl) (by decide) dX12_renderLine_37) (fun hw => cb_J4_append_bf812 zk.1 zs zp zd _ hB (σ (1 + 23 + 2 * x1.toNat) 0).toNat (by have := w0; unfold rng at this; omega) (by simp only [txL, txT, List.length_append, List.length_cons, List.length_nil] at gl ⊢; omega) hw) (a' := 3) (b' := 410) ⟨rfl, rfl⟩ (fun τ hR => ?_)
  replace hO := hO.trans hR.1
  replace hB := hR.2
  clear hR
  refine T_bipush (pc := 40) C dX12_renderLine_40 (by decide) ?_
  refine T_bQ (pc := 42) zk.1 hZ C [vi 47] [] (runBV C [vi 47] [] kr_10 cmb_J4_append_cf468 (C.2.2.2.2.1 _ kr_11) rfl rfl (Nat.le_of_ble_eq_true rfl) (by decide) dX12_renderLine_42) (fun hw => cb_J4_append_cf468 zk.1 zs zp _ hB 47 (by decide) (by simp only [txL, txT, List.length_append, List.length_cons, List.length_nil] at gl ⊢; omega) hw) (a' := 4) (b' := 612) ⟨rfl, rfl⟩ (fun τ hR => ?_)
  replace hO := hO.trans hR.1
  replace hB := hR.2
  clear hR
  refine T_aload_n (pc := 45) C dX12_renderLine_45 rfl 0 rfl ?_
  refine Tc_geti (pc := 46) C (1 + 23 + 2 * x1.toNat) 7 1 8 y4 (by decide) (fun _ => rfl) rfl inX7 (by decide) rfl kr_12 dX12_renderLine_46 (fun z1 => ?_)
  rw [congrFun (hO (1 + 23 + 2 * x1.toNat) nr0.1 nr0.2.1) 1]
  have w1 : rng (σ (1 + 23 + 2 * x1.toNat) 1) := by rw [← congrFun (hO (1 + 23 + 2 * x1.toNat) nr0.1 nr0.2.1) 1]; exact z1.1
  refine T_bQ (pc := 49) zk.1 hZ C [vi (((σ (1 + 23 + 2 * x1.toNat) 1).toNat : Nat) : Int)] [] (runBV C [vi (((σ (1 + 23 + 2 * x1.toNat) 1).toNat : Nat) : Int)] [] kr_8 cmb_J4_append_bf812 (C.2.2.2.2.1 _ kr_9) rfl (by rw [Int.toNat_of_nonneg gb]; rfl) (Nat.le_of_ble_eq_true rfl) (by decide) dX12_renderLine_49) (fun hw => cb_J4_append_bf812 zk.1 zs zp zd _ hB (σ (1 + 23 + 2 * x1.toNat) 1).toNat (by have := w1; unfold rng at this; omega) (by simp only [txL, txT, List.length_append, List.length_cons, List.length_nil] at gl ⊢; omega) hw) (a' := 5) (b' := 814) ⟨rfl, rfl⟩ (fun τ hR => ?_)
  replace hO := hO.trans hR.1
  replace hB := hR.2
  clear hR
  refine T_pop (pc := 52) C dX12_renderLine_52 rfl ?_
  refine T_aload_n (pc := 53) C dX12_renderLine_53 rfl 1 rfl ?_
  refine Tc_getr (pc := 54) C 0 12 12 13 (rfl : kd 0 = 12) (by decide) (fun _ => rfl) rfl inX12 (by decide) (v := .ref (ad 390)) rfl kr_4 dX12_renderLine_54 ?_
  refine T_bipush (pc := 57) C dX12_renderLine_57 (by decide) ?_
  refine T_bQ (pc := 59) zk.1 hZ C [vi 43] [] (runBV C [vi 43] [] kr_10 cmb_J4_append_cf468 (C.2.2.2.2.1 _ kr_11) rfl rfl (Nat.le_of_ble_eq_true rfl) (by decide) dX12_renderLine_59) (fun hw => cb_J4_append_cf468 zk.1 zs zp _ hB 43 (by decide) (by simp only [txL, txT, List.length_append, List.length_cons, List.length_nil] at gl ⊢; omega) hw) (a' := 6) (b' := 1016) ⟨rfl, rfl⟩ (fun τ hR => ?_)
  replace hO := hO.trans hR.1
  replace hB := hR.2
  clear hR
  refine T_aload_n (pc := 62) C dX12_renderLine_62 rfl 0 rfl ?_
  refine T_aload_n (pc := 63) C dX12_renderLine_63 rfl 1 rfl ?_
  refine Tc_getr (pc := 64) C 0 12 0 13 (rfl : kd 0 = 12) (by decide) (fun _ => rfl) rfl inX12 (by decide) (v := .ref (ad 1)) rfl kr_0 dX12_renderLine_64 ?_
  refine Tc_geti (pc := 67) C 1 8 1 10 (rfl : kd 1 = 8) (by decide) (fun _ => rfl) rfl inX8 (by decide) rfl kr_13 dX12_renderLine_67 (fun zr => ?_)
  rw [congrFun (hO 1 (by decide) (by decide)) 1]
  have wr : bit (σ 1 1) := by rw [← congrFun (hO 1 (by decide) (by decide)) 1]; exact zr.2 rfl
  refine T_czVc (pc := 70) zk.1 hZ C [vi (σ 1 1)] [.ref (ad 390)] (fun hw => ct_X7_pace zk τ (1 + 23 + 2 * x1.toNat) (σ 1 1) y4 wr hw p (by rw [pace_off (hO (1 + 23 + 2 * x1.toNat) nr0.1 nr0.2.1)]; exact hp)) kr_14 cm_X7_pace (rcc y4 (by decide) (fun _ => rfl) rfl) rfl rfl (Nat.le_of_ble_eq_true rfl) (by decide) (a' := 6) (b' := 1016) ⟨rfl, rfl⟩ dX12_renderLine_70 (fun hp9 => ?_)
  refine T_bQ (pc := 73) zk.1 hZ C [vi ((p.toNat : Nat) : Int)] [] (runBV C [vi ((p.toNat : Nat) : Int)] [] kr_8 cmb_J4_append_bf812 (C.2.2.2.2.1 _ kr_9) rfl (by rw [Int.toNat_of_nonneg gp]; rfl) (Nat.le_of_ble_eq_true rfl) (by decide) dX12_renderLine_73) (fun hw => cb_J4_append_bf812 zk.1 zs zp zd _ hB p.toNat (by have := hp9.1; unfold rng at this; omega) (by simp only [txL, txT, List.length_append, List.length_cons, List.length_nil] at gl ⊢; omega) hw) (a' := 7) (b' := 1218) ⟨rfl, rfl⟩ (fun τ hR => ?_)
  replace hO := hO.trans hR.1
  replace hB := hR.2
  clear hR
  refine T_bipush (pc := 76) C dX12_renderLine_76 (by decide) ?_
  refine T_bQ (pc := 78) zk.1 hZ C [vi 120] [] (runBV C [vi 120] [] kr_10 cmb_J4_append_cf468 (C.2.2.2.2.1 _ kr_11) rfl rfl (Nat.le_of_ble_eq_true rfl) (by decide) dX12_renderLine_78) (fun hw => cb_J4_append_cf468 zk.1 zs zp _ hB 120 (by decide) (by simp only [txL, txT, List.length_append, List.length_cons, List.length_nil] at gl ⊢; omega) hw) (a' := 8) (b' := 1420) ⟨rfl, rfl⟩ (fun τ hR => ?_)
  replace hO := hO.trans hR.1
  replace hB := hR.2
  clear hR
  refine T_aload_n (pc := 81) C dX12_renderLine_81 rfl 0 rfl ?_
  refine Tc_geti (pc := 82) C (1 + 23 + 2 * x1.toNat) 7 4 8 y4 (by decide) (fun _ => rfl) rfl inX7 (by decide) rfl kr_15 dX12_renderLine_82 (fun z4 => ?_)
  rw [congrFun (hO (1 + 23 + 2 * x1.toNat) nr0.1 nr0.2.1) 4]
  have w4 : rng (σ (1 + 23 + 2 * x1.toNat) 4) := by rw [← congrFun (hO (1 + 23 + 2 * x1.toNat) nr0.1 nr0.2.1) 4]; exact z4.1
  refine T_bQ (pc := 85) zk.1 hZ C [vi (((σ (1 + 23 + 2 * x1.toNat) 4).toNat : Nat) : Int)] [] (runBV C [vi (((σ (1 + 23 + 2 * x1.toNat) 4).toNat : Nat) : Int)] [] kr_8 cmb_J4_append_bf812 (C.2.2.2.2.1 _ kr_9) rfl (by rw [Int.toNat_of_nonneg gs]; rfl) (Nat.le_of_ble_eq_true rfl) (by decide) dX12_renderLine_85) (fun hw => cb_J4_append_bf812 zk.1 zs zp zd _ hB (σ (1 + 23 + 2 * x1.toNat) 4).toNat (by have := w4; unfold rng at this; omega) (by simp only [txL, txT, List.length_append, List.length_cons, List.length_nil] at gl ⊢; omega) hw) (a' := 9) (b' := 1622) ⟨rfl, rfl⟩ (fun τ hR => ?_)
  replace hO := hO.trans hR.1
  replace hB := hR.2
  clear hR
  refine T_pop (pc := 88) C dX12_renderLine_88 rfl ?_
  refine T_aload_n (pc := 89) C dX12_renderLine_89 rfl 1 rfl ?_
  refine Tc_getr (pc := 90) C 0 12 12 13 (rfl : kd 0 = 12) (by decide) (fun _ => rfl) rfl inX12 (by decide) (v := .ref (ad 390)) rfl kr_4 dX12_renderLine_90 ?_
  refine T_bipush (pc := 93) C dX12_renderLine_93 (by decide) ?_
  refine T_bQ (pc := 95) zk.1 hZ C [vi 58] [] (runBV C [vi 58] [] kr_10 cmb_J4_append_cf468 (C.2.2.2.2.1 _ kr_11) rfl rfl (Nat.le_of_ble_eq_true rfl) (by decide) dX12_renderLine_95) (fun hw => cb_J4_append_cf468 zk.1 zs zp _ hB 58 (by decide) (by simp only [txL, txT, List.length_append, List.length_cons, List.length_nil] at gl ⊢; omega) hw) (a' := 10) (b' := 1824) ⟨rfl, rfl⟩ (fun τ hR => ?_)
  replace hO := hO.trans hR.1
  replace hB := hR.2
  clear hR
  refine T_pop (pc := 98) C dX12_renderLine_98 rfl ?_
  refine T_iconst (pc := 99) C dX12_renderLine_99 ?_
  refine T_istore_n (pc := 100) (L' := [(3, vi 0), (2, .ref (ad (1 + 23 + 2 * x1.toNat))), (0, .ref (ad 0)), (1, vi x1)]) C dX12_renderLine_100 rfl (Nat.le_of_ble_eq_true rfl) rfl ?_
  have loop : ∀ (m k : Nat) (τ : Sm), k + m = (σ (1 + 23 + 2 * x1.toNat) 6).toNat → offB σ τ → BI τ (([] ++ dg (σ (1 + 23 + 2 * x1.toNat) 0).toNat ++ [47] ++ dg (σ (1 + 23 + 2 * x1.toNat) 1).toNat ++ [43] ++ dg p.toNat ++ [120] ++ dg (σ (1 + 23 + 2 * x1.toNat) 4).toNat ++ [58]) ++ txR (σ ((1 + 23 + 2 * x1.toNat) + 1)) k) → T X (Yc cy ad E G A 4 Q) (fun w => EndYI X (Yc cy ad E G A 4 Q) cX12_renderLine rm_X12_renderLine .int w ∧ EndX X (Yc cy ad E G A 4 Q) cX12_renderLine RX12 rm_X12_renderLine w.1) (20 + 2 * k) (3000 + 404 * k) 101 [(3, vi ((k : Nat) : Int)), (2, .ref (ad (1 + 23 + 2 * x1.toNat))), (0, .ref (ad 0))] [] τ (some ((σ, 0, ((txL (σ (1 + 23 + 2 * x1.toNat) 0) (σ (1 + 23 + 2 * x1.toNat) 1) p (σ (1 + 23 + 2 * x1.toNat) 4) (σ ((1 + 23 + 2 * x1.toNat) + 1)) (σ (1 + 23 + 2 * x1.toNat) 6).toNat (σ (1 + 23 + 2 * x1.toNat) 5)).length : Int)), txL (σ (1 + 23 + 2 * x1.toNat) 0) (σ (1 + 23 + 2 * x1.toNat) 1) p (σ (1 + 23 + 2 * x1.toNat) 4) (σ ((1 + 23 + 2 * x1.toNat) + 1)) (σ (1 + 23 + 2 * x1.toNat) 6).toNat (σ (1 + 23 + 2 * x1.toNat) 5))) := by
    intro m
    induction m with
    | zero =>
      intro k τ hk hO hB
      have hk6 : k ≤ 6 := by omega
      have ek : k = (σ (1 + 23 + 2 * x1.toNat) 6).toNat := by omega
      refine T_iload_n (pc := 101) C dX12_renderLine_101 rfl 0 rfl ?_
      refine T_aload_n (pc := 102) C dX12_renderLine_102 rfl 1 rfl ?_
      refine Tc_geti (pc := 103) C (1 + 23 + 2 * x1.toNat) 7 6 8 y4 (by decide) (fun _ => rfl) rfl inX7 (by decide) rfl kr_16 dX12_renderLine_103 (fun z6 => ?_)
      rw [congrFun (hO (1 + 23 + 2 * x1.toNat) nr0.1 nr0.2.1) 6]
      have w6 : rng (σ (1 + 23 + 2 * x1.toNat) 6) := by rw [← congrFun (hO (1 + 23 + 2 * x1.toNat) nr0.1 nr0.2.1) 6]; exact z6.1
      refine T_icmp_ge_t (pc := 106) C 143 dX12_renderLine_106 rfl (by unfold rng; omega) w6 (by omega) ?_
      refine T_aload_n (pc := 143) C dX12_renderLine_143 rfl 1 rfl ?_
      refine Tc_geti (pc := 144) C (1 + 23 + 2 * x1.toNat) 7 5 8 y4 (by decide) (fun _ => rfl) rfl inX7 (by decide) rfl kr_17 dX12_renderLine_144 (fun z5 => ?_)
      rw [congrFun (hO (1 + 23 + 2 * x1.toNat) nr0.1 nr0.2.1) 5]
      have w5 : rng (σ (1 + 23 + 2 * x1.toNat) 5) := by rw [← congrFun (hO (1 + 23 + 2 * x1.toNat) nr0.1 nr0.2.1) 5]; exact z5.1
      by_cases hs : σ (1 + 23 + 2 * x1.toNat) 5 = 0
      · refine T_if_eq_t (pc := 147) C 160 dX12_renderLine_147 rfl w5 hs ?_
        refine T_aload_n (pc := 160) C dX12_renderLine_160 rfl 2 rfl ?_
        refine Tc_getr (pc := 161) C 0 12 12 13 (rfl : kd 0 = 12) (by decide) (fun _ => rfl) rfl inX12 (by decide) (v := .ref (ad 390)) rfl kr_4 dX12_renderLine_161 ?_
        rw [ek] at hB
        replace hB : BI τ (txL (σ (1 + 23 + 2 * x1.toNat) 0) (σ (1 + 23 + 2 * x1.toNat) 1) p (σ (1 + 23 + 2 * x1.toNat) 4) (σ ((1 + 23 + 2 * x1.toNat) + 1)) (σ (1 + 23 + 2 * x1.toNat) 6).toNat (σ (1 + 23 + 2 * x1.toNat) 5)) := by unfold txL; rw [if_pos hs, List.append_nil]; exact hB
        refine T_bI (pc := 164) zk.1 hZ C [] [] (runBV C [] [] kr_18 cmb_J4_length_8abf5 (C.2.2.2.2.1 _ kr_19) rfl rfl (Nat.le_of_ble_eq_true rfl) ⟨⟨by decide, by decide⟩, by show _ + 0 ≤ 60; omega, by show _ + 0 ≤ 6000; omega⟩ dX12_renderLine_164) (fun hw => cb_J4_length_8abf5 zk.1 _ hB.2.1 (by unfold rng; omega) hw) (a' := (20 + 2 * k) + 0) (b' := (3000 + 404 * k) + 0) ⟨rfl, rfl⟩ (fun h5 => ?_)
        exact T_yiret (pc := 167) _ _ ⟨rfl, rfl⟩ ⟨hO, hB⟩ (fun h9 => h9.1) h5.1 (nar_I _) ⟨by show _ ≤ 60; omega, by show _ ≤ 6000; omega⟩ dX12_renderLine_167
      · refine T_if_eq_f (pc := 147) C 160 dX12_renderLine_147 rfl w5 hs ?_
        refine T_aload_n (pc := 150) C dX12_renderLine_150 rfl 2 rfl ?_
        refine Tc_getr (pc := 151) C 0 12 12 13 (rfl : kd 0 = 12) (by decide) (fun _ => rfl) rfl inX12 (by decide) (v := .ref (ad 390)) rfl kr_4 dX12_renderLine_151 ?_
        refine T_bipush (pc := 154) C dX12_renderLine_154 (by decide) ?_
        refine T_bQ (pc := 156) zk.1 hZ C [vi 33] [] (runBV C [vi 33] [] kr_10 cmb_J4_append_cf468 (C.2.2.2.2.1 _ kr_11) rfl rfl (Nat.le_of_ble_eq_true rfl) ⟨⟨by decide, by decide⟩, by show _ + 1 ≤ 60; omega, by show _ + 202 ≤ 6000; omega⟩ dX12_renderLine_156) (fun hw => cb_J4_append_cf468 zk.1 zs zp _ hB 33 (by decide) (by unfold txL at gl; rw [if_neg hs] at gl; rw [ek]; simp only [List.length_append, List.length_cons, List.length_nil] at gl ⊢; omega) hw) (a' := (20 + 2 * k) + 1) (b' := (3000 + 404 * k) + 202) ⟨rfl, rfl⟩ (fun τ hR => ?_)
        replace hO := hO.trans hR.1
        replace hB := hR.2
        clear hR
        refine T_pop (pc := 159) C dX12_renderLine_159 rfl ?_
        refine T_aload_n (pc := 160) C dX12_renderLine_160 rfl 2 rfl ?_
        refine Tc_getr (pc := 161) C 0 12 12 13 (rfl : kd 0 = 12) (by decide) (fun _ => rfl) rfl inX12 (by decide) (v := .ref (ad 390)) rfl kr_4 dX12_renderLine_161 ?_
        rw [ek] at hB
        replace hB : BI τ (txL (σ (1 + 23 + 2 * x1.toNat) 0) (σ (1 + 23 + 2 * x1.toNat) 1) p (σ (1 + 23 + 2 * x1.toNat) 4) (σ ((1 + 23 + 2 * x1.toNat) + 1)) (σ (1 + 23 + 2 * x1.toNat) 6).toNat (σ (1 + 23 + 2 * x1.toNat) 5)) := by unfold txL; rw [if_neg hs]; exact hB
        refine T_bI (pc := 164) zk.1 hZ C [] [] (runBV C [] [] kr_18 cmb_J4_length_8abf5 (C.2.2.2.2.1 _ kr_19) rfl rfl (Nat.le_of_ble_eq_true rfl) ⟨⟨by decide, by decide⟩, by show _ + 0 ≤ 60; omega, by show _ + 0 ≤ 6000; omega⟩ dX12_renderLine_164) (fun hw => cb_J4_length_8abf5 zk.1 _ hB.2.1 (by unfold rng; omega) hw) (a' := (20 + 2 * k) + 1) (b' := (3000 + 404 * k) + 202) ⟨rfl, rfl⟩ (fun h5 => ?_)
        exact T_yiret (pc := 167) _ _ ⟨rfl, rfl⟩ ⟨hO, hB⟩ (fun h9 => h9.1) h5.1 (nar_I _) ⟨by show _ ≤ 60; omega, by show _ ≤ 6000; omega⟩ dX12_renderLine_167
    | succ m ih =>
      intro k τ hk hO hB
      have hk6 : k + 1 ≤ 6 := by omega
      have gk := gr k (by omega)
      have gm := txR_mono (σ ((1 + 23 + 2 * x1.toNat) + 1)) (show k + 1 ≤ (σ (1 + 23 + 2 * x1.toNat) 6).toNat by omega)
      refine T_iload_n (pc := 101) C dX12_renderLine_101 rfl 0 rfl ?_
      refine T_aload_n (pc := 102) C dX12_renderLine_102 rfl 1 rfl ?_
      refine Tc_geti (pc := 103) C (1 + 23 + 2 * x1.toNat) 7 6 8 y4 (by decide) (fun _ => rfl) rfl inX7 (by decide) rfl kr_16 dX12_renderLine_103 (fun z6 => ?_)
      rw [congrFun (hO (1 + 23 + 2 * x1.toNat) nr0.1 nr0.2.1) 6]
      have w6 : rng (σ (1 + 23 + 2 * x1.toNat) 6) := by rw [← congrFun (hO (1 + 23 + 2 * x1.toNat) nr0.1 nr0.2.1) 6]; exact z6.1
      refine T_icmp_ge_f (pc := 106) C 143 dX12_renderLine_106 rfl (by unfold rng; omega) w6 (by omega) ?_
      refine T_iload_n (pc := 109) C dX12_renderLine_109 rfl 0 rfl ?_
      by_cases hk0 : k = 0
      · refine T_if_le_t (pc := 110) C 123 dX12_renderLine_110 rfl (by unfold rng; omega) (by omega) ?_
        refine T_aload_n (pc := 123) C dX12_renderLine_123 rfl 2 rfl ?_
        refine Tc_getr (pc := 124) C 0 12 12 13 (rfl : kd 0 = 12) (by decide) (fun _ => rfl) rfl inX12 (by decide) (v := .ref (ad 390)) rfl kr_4 dX12_renderLine_124 ?_
        refine T_aload_n (pc := 127) C dX12_renderLine_127 rfl 1 rfl ?_
        refine Tc_getr (pc := 128) C (1 + 23 + 2 * x1.toNat) 7 7 8 y4 (by decide) (fun _ => rfl) rfl inX7 (by decide) (v := .ref (ad ((1 + 23 + 2 * x1.toNat) + 1))) rfl kr_20 dX12_renderLine_128 ?_
        refine T_iload_n (pc := 131) C dX12_renderLine_131 rfl 0 rfl ?_
        refine Tc_iald (pc := 132) C ((1 + 23 + 2 * x1.toNat) + 1) 22 6 k y5 ⟨by decide, by decide⟩ rfl (by omega) (by omega) dX12_renderLine_132 (fun w8 => ?_)
        rw [congrFun (hO ((1 + 23 + 2 * x1.toNat) + 1) nr0.2.2.1 nr0.2.2.2) k] at w8 ⊢
        refine T_bQ (pc := 133) zk.1 hZ C [vi (((σ ((1 + 23 + 2 * x1.toNat) + 1) k).toNat : Nat) : Int)] [] (runBV C [vi (((σ ((1 + 23 + 2 * x1.toNat) + 1) k).toNat : Nat) : Int)] [] kr_8 cmb_J4_append_bf812 (C.2.2.2.2.1 _ kr_9) rfl (by rw [Int.toNat_of_nonneg gk]; rfl) (Nat.le_of_ble_eq_true rfl) ⟨⟨by decide, by decide⟩, by show _ + 1 ≤ 60; omega, by show _ + 202 ≤ 6000; omega⟩ dX12_renderLine_133) (fun hw => cb_J4_append_bf812 zk.1 zs zp zd _ hB (σ ((1 + 23 + 2 * x1.toNat) + 1) k).toNat (by have := w8; unfold rng at this; omega) (by rw [txR] at gm; unfold txL at gl; rw [if_pos hk0] at gm; simp only [List.length_append, List.length_cons, List.length_nil] at gl gm ⊢; omega) hw) (a' := (20 + 2 * k) + 1) (b' := (3000 + 404 * k) + 202) ⟨rfl, rfl⟩ (fun τ hR => ?_)
        replace hO := hO.trans hR.1
        replace hB := hR.2
        clear hR
        refine T_pop (pc := 136) C dX12_renderLine_136 rfl ?_
        refine T_iinc (pc := 137) (L' := [(3, vi (((k : Nat) : Int) + 1)), (2, .ref (ad (1 + 23 + 2 * x1.toNat))), (0, .ref (ad 0))]) C dX12_renderLine_137 (Nat.le_of_ble_eq_true rfl) 0 rfl rfl ?_
        refine T_goto (pc := 140) C 101 dX12_renderLine_140 rfl ?_
        replace hB : BI τ (([] ++ dg (σ (1 + 23 + 2 * x1.toNat) 0).toNat ++ [47] ++ dg (σ (1 + 23 + 2 * x1.toNat) 1).toNat ++ [43] ++ dg p.toNat ++ [120] ++ dg (σ (1 + 23 + 2 * x1.toNat) 4).toNat ++ [58]) ++ txR (σ ((1 + 23 + 2 * x1.toNat) + 1)) (k + 1)) := by rw [txR, if_pos hk0, List.append_nil, ← List.append_assoc]; exact hB
        rw [show (k : Int) + 1 = ((k + 1 : Nat) : Int) by omega]
        refine T_sub (L' := [(3, vi ((k + 1 : Nat) : Int)), (2, .ref (ad (1 + 23 + 2 * x1.toNat))), (0, .ref (ad 0))]) [0, 1, 2] rfl ?_
        exact T_wide ⟨by omega, by omega⟩ (ih (k + 1) τ (by omega) hO hB)
      · refine T_if_le_f (pc := 110) C 123 dX12_renderLine_110 rfl (by unfold rng; omega) (by omega) ?_
        refine T_aload_n (pc := 113) C dX12_renderLine_113 rfl 2 rfl ?_
        refine Tc_getr (pc := 114) C 0 12 12 13 (rfl : kd 0 = 12) (by decide) (fun _ => rfl) rfl inX12 (by decide) (v := .ref (ad 390)) rfl kr_4 dX12_renderLine_114 ?_
        refine T_bipush (pc := 117) C dX12_renderLine_117 (by decide) ?_
        refine T_bQ (pc := 119) zk.1 hZ C [vi 62] [] (runBV C [vi 62] [] kr_10 cmb_J4_append_cf468 (C.2.2.2.2.1 _ kr_11) rfl rfl (Nat.le_of_ble_eq_true rfl) ⟨⟨by decide, by decide⟩, by show _ + 1 ≤ 60; omega, by show _ + 202 ≤ 6000; omega⟩ dX12_renderLine_119) (fun hw => cb_J4_append_cf468 zk.1 zs zp _ hB 62 (by decide) (by rw [txR] at gm; unfold txL at gl; rw [if_neg hk0] at gm; simp only [List.length_append, List.length_cons, List.length_nil] at gl gm ⊢; omega) hw) (a' := (20 + 2 * k) + 1) (b' := (3000 + 404 * k) + 202) ⟨rfl, rfl⟩ (fun τ hR => ?_)
        replace hO := hO.trans hR.1
        replace hB := hR.2
        clear hR
        refine T_pop (pc := 122) C dX12_renderLine_122 rfl ?_
        refine T_aload_n (pc := 123) C dX12_renderLine_123 rfl 2 rfl ?_
        refine Tc_getr (pc := 124) C 0 12 12 13 (rfl : kd 0 = 12) (by decide) (fun _ => rfl) rfl inX12 (by decide) (v := .ref (ad 390)) rfl kr_4 dX12_renderLine_124 ?_
        refine T_aload_n (pc := 127) C dX12_renderLine_127 rfl 1 rfl ?_
        refine Tc_getr (pc := 128) C (1 + 23 + 2 * x1.toNat) 7 7 8 y4 (by decide) (fun _ => rfl) rfl inX7 (by decide) (v := .ref (ad ((1 + 23 + 2 * x1.toNat) + 1))) rfl kr_20 dX12_renderLine_128 ?_
        refine T_iload_n (pc := 131) C dX12_renderLine_131 rfl 0 rfl ?_
        refine Tc_iald (pc := 132) C ((1 + 23 + 2 * x1.toNat) + 1) 22 6 k y5 ⟨by decide, by decide⟩ rfl (by omega) (by omega) dX12_renderLine_132 (fun w8 => ?_)
        rw [congrFun (hO ((1 + 23 + 2 * x1.toNat) + 1) nr0.2.2.1 nr0.2.2.2) k] at w8 ⊢
        refine T_bQ (pc := 133) zk.1 hZ C [vi (((σ ((1 + 23 + 2 * x1.toNat) + 1) k).toNat : Nat) : Int)] [] (runBV C [vi (((σ ((1 + 23 + 2 * x1.toNat) + 1) k).toNat : Nat) : Int)] [] kr_8 cmb_J4_append_bf812 (C.2.2.2.2.1 _ kr_9) rfl (by rw [Int.toNat_of_nonneg gk]; rfl) (Nat.le_of_ble_eq_true rfl) ⟨⟨by decide, by decide⟩, by show _ + 1 ≤ 60; omega, by show _ + 202 ≤ 6000; omega⟩ dX12_renderLine_133) (fun hw => cb_J4_append_bf812 zk.1 zs zp zd _ hB (σ ((1 + 23 + 2 * x1.toNat) + 1) k).toNat (by have := w8; unfold rng at this; omega) (by rw [txR] at gm; unfold txL at gl; rw [if_neg hk0] at gm; simp only [List.length_append, List.length_cons, List.length_nil] at gl gm ⊢; omega) hw) (a' := (20 + 2 * k) + 2) (b' := (3000 + 404 * k) + 404) ⟨rfl, rfl⟩ (fun τ hR => ?_)
        replace hO := hO.trans hR.1
        replace hB := hR.2
        clear hR
        refine T_pop (pc := 136) C dX12_renderLine_136 rfl ?_
        refine T_iinc (pc := 137) (L' := [(3, vi (((k : Nat) : Int) + 1)), (2, .ref (ad (1 + 23 + 2 * x1.toNat))), (0, .ref (ad 0))]) C dX12_renderLine_137 (Nat.le_of_ble_eq_true rfl) 0 rfl rfl ?_
        refine T_goto (pc := 140) C 101 dX12_renderLine_140 rfl ?_
        replace hB : BI τ (([] ++ dg (σ (1 + 23 + 2 * x1.toNat) 0).toNat ++ [47] ++ dg (σ (1 + 23 + 2 * x1.toNat) 1).toNat ++ [43] ++ dg p.toNat ++ [120] ++ dg (σ (1 + 23 + 2 * x1.toNat) 4).toNat ++ [58]) ++ txR (σ ((1 + 23 + 2 * x1.toNat) + 1)) (k + 1)) := by rw [txR, if_neg hk0, ← List.append_assoc, ← List.append_assoc]; exact hB
        rw [show (k : Int) + 1 = ((k + 1 : Nat) : Int) by omega]
        refine T_sub (L' := [(3, vi ((k + 1 : Nat) : Int)), (2, .ref (ad (1 + 23 + 2 * x1.toNat))), (0, .ref (ad 0))]) [0, 1, 2] rfl ?_
        exact T_wide ⟨by omega, by omega⟩ (ih (k + 1) τ (by omega) hO hB)
  replace hB : BI τ (([] ++ dg (σ (1 + 23 + 2 * x1.toNat) 0).toNat ++ [47] ++ dg (σ (1 + 23 + 2 * x1.toNat) 1).toNat ++ [43] ++ dg p.toNat ++ [120] ++ dg (σ (1 + 23 + 2 * x1.toNat) 4).toNat ++ [58]) ++ txR (σ ((1 + 23 + 2 * x1.toNat) + 1)) 0) := by rw [txR, List.append_nil]; exact hB
  refine T_sub (L' := [(3, vi ((0 : Nat) : Int)), (2, .ref (ad (1 + 23 + 2 * x1.toNat))), (0, .ref (ad 0))]) [0, 1, 2] rfl ?_
  exact T_wide ⟨by decide, by decide⟩ (loop (σ (1 + 23 + 2 * x1.toNat) 6).toNat 0 τ (by omega) hO hB)
theorem T_wf {O : Type} {X : vjX} {kp : O → Prop} {a b pc : Nat} {L : List (Nat × Value)} {st : List Value} {S : Type} {Y : vjY S} {σ : S} {r : Option O} (K : Y.2.1 σ → T X Y kp a b pc L st σ r) : T X Y kp a b pc L st σ r := fun w h hk H locs ls hP hD hS hw hl => K hw w h hk H locs ls hP hD hS hw hl
abbrev rm_X12_renderTicket : Room := ⟨7, 60, 6000, 135⟩
theorem cm_X12_renderTicket : cmV yX12_renderTicket cX12_renderTicket 3 (some .int) 1 := ⟨kr_34, kr_22, ⟨by decide +kernel, by decide +kernel, by decide +kernel⟩, kr_35, kr_36⟩
theorem ct_X12_renderTicket {l : Launch} {cy : Nat → ClassId} {ad : Nat → Nat} {E : Nat → Nat → Nat} {G : va_G} {Z : vZ} {sa : Nat → Nat} (zk : Zk Z E) (zy : Zy Z E sa) (zs : ZS Z E) (zp : ZP Z) (zd : ZD Z E) (hst : l.stackTraces = false) (N : Nat) (σ : Sm) (x1 : Int) (h1 : rng x1) (t0 : List Int) (hB0 : BI σ t0) (hw : wfc σ) (o : Sy) (h : f_X12_renderTicket N σ x1 = some o) : CyI Z l yX12_renderTicket cX12_renderTicket 3 (some .int) rm_X12_renderTicket cy ad E G [.ref (ad 0), vi x1] σ o := by
  refine cyI_of zk.1 zy.1 hst (by decide) (Nat.le_of_ble_eq_true rfl) hw o h (fun X A Q hZ hX C => ?_)
  replace hst : X.2.1.stackTraces = false := by rw [hX]; exact hst
  replace C : Cx X (Yc cy ad E G A 3 Q) cX12_renderTicket RX12 (some .int) rm_X12_renderTicket (tyc cy) := C
  replace hZ : Zx Z X (Yc cy ad E G A 3 Q) := hZ
  show T X (Yc cy ad E G A 3 Q) (fun w => EndYI X (Yc cy ad E G A 3 Q) cX12_renderTicket rm_X12_renderTicket .int w ∧ EndX X (Yc cy ad E G A 3 Q) cX12_renderTicket RX12 rm_X12_renderTicket w.1) 0 0 0 [(0, .ref (ad 0)), (1, vi x1)] [] σ (f_X12_renderTicket N σ x1)
  unfold f_X12_renderTicket
  refine T_aload_n (pc := 0) C dX12_renderTicket_0 rfl 0 rfl ?_
  refine Tc_getr (pc := 1) C 0 12 0 13 (rfl : kd 0 = 12) (by decide) (fun _ => rfl) rfl inX12 (by decide) (v := .ref (ad 1)) rfl kr_0 dX12_renderTicket_1 ?_
  refine Tc_getr (pc := 4) C 1 8 9 10 (rfl : kd 1 = 8) (by decide) (fun _ => rfl) rfl inX8 (by decide) (v := .ref (ad 6)) rfl kr_25 dX12_renderTicket_4 ?_
  refine Tc_getr (pc := 7) C 6 11 0 6 (kd_8 (rfl : kd 1 = 8)).2.2.2.2.1 (by decide) (fun _ => rfl) rfl inX11 (by decide) (v := .ref (ad 7)) rfl kr_26 dX12_renderTicket_7 ?_
  refine T_aload_n (pc := 10) C dX12_renderTicket_10 rfl 0 rfl ?_
  refine T_iload_n (pc := 11) C dX12_renderTicket_11 rfl 1 rfl ?_
  refine T_cxViF (pc := 12) zk.1 hZ C [vi x1] [.ref (ad 7)] (fun o h9 hw => ct_X12_knownTicket zk zy hst N σ x1 h1 hw o h9) kr_27 cm_X12_knownTicket (rcc (rfl : kd 0 = 12) (by decide) (fun _ => rfl) rfl) rfl rfl (Nat.le_of_ble_eq_true rfl) (by decide) (a' := 1) (b' := 6) ⟨rfl, rfl⟩ dX12_renderTicket_12 (g := fun o => (xw o, [])) (fun o h9 h8 => (h9.2 h8).1) (fun v1 f1 hv1 => ?_)
  rw [known_st f1]
  refine T_guard (fun g3 => ?_)
  refine T_guard (fun g4 => ?_)
  obtain ⟨g0, g1, g2, g5, g6, g7⟩ := g4
  refine Tc_ald28 (pc := 15) C 7 v1.2.2.toNat (kd_11 (kd_8 (rfl : kd 1 = 8)).2.2.2.2.1) g3 rfl dX12_renderTicket_15 (fun y3 => ?_)
  have nr0 : ¬ (σ 7 v1.2.2.toNat).toNat = 390 ∧ ¬ (σ 7 v1.2.2.toNat).toNat = 391 := ⟨fun e => by rw [e] at y3; exact absurd y3.2 (by decide), fun e => by rw [e] at y3; exact absurd y3.2 (by decide)⟩
  refine T_wf (fun hwf => ?_)
  have wt : ∀ z : Nat, rng (σ (σ 7 v1.2.2.toNat).toNat z) := fun z => by have h9 := hwf (σ 7 v1.2.2.toNat).toNat z; rw [y3.2] at h9; exact h9
  have lt : (txT (σ (σ 7 v1.2.2.toNat).toNat 0) (σ (σ 7 v1.2.2.toNat).toNat 1) (σ (σ 7 v1.2.2.toNat).toNat 2) (σ (σ 7 v1.2.2.toNat).toNat 3) (σ (σ 7 v1.2.2.toNat).toNat 4) (σ (σ 7 v1.2.2.toNat).toNat 5)).length ≤ 100 := by
    have q : ∀ z : Int, rng z → (dg z.toNat).length ≤ 10 := fun z hz => dg_len10 (by unfold rng at hz; omega)
    simp only [txT, List.length_append, List.length_cons, List.length_nil]
    have q0 := q _ (wt 0)
    have q1 := q _ (wt 1)
    have q2 := q _ (wt 2)
    have q3 := q _ (wt 3)
    have q4 := q _ (wt 4)
    have q5 := q _ (wt 5)
    omega
  have gl := lt
  have hO : offB σ σ := offB.refl σ
  have hB := hB0
  refine T_astore_n (pc := 16) (L' := [(2, .ref (ad (σ 7 v1.2.2.toNat).toNat)), (0, .ref (ad 0)), (1, vi x1)]) C dX12_renderTicket_16 rfl (Nat.le_of_ble_eq_true rfl) rfl ?_
  refine T_aload_n (pc := 17) C dX12_renderTicket_17 rfl 1 rfl ?_
  refine Tc_getr (pc := 18) C 0 12 12 13 (rfl : kd 0 = 12) (by decide) (fun _ => rfl) rfl inX12 (by decide) (v := .ref (ad 390)) rfl kr_4 dX12_renderTicket_18 ?_
  refine T_iconst (pc := 21) C dX12_renderTicket_21 ?_
  refine T_bV (pc := 22) zk.1 hZ C [vi 0] [] (runBV C [vi 0] [] kr_5 cmb_J4_setLength_d00df (C.2.2.2.2.1 _ kr_6) rfl rfl (Nat.le_of_ble_eq_true rfl) (by decide) dX12_renderTicket_22) (fun hw => cb_J4_setLength_d00df zk.1 zs zp _ hB hw) (a' := 2) (b' := 208) ⟨rfl, rfl⟩ (fun τ hR => ?_)
  replace hO := hO.trans hR.1
  replace hB := hR.2
  clear hR
  refine T_aload_n (pc := 25) C dX12_renderTicket_25 rfl 1 rfl ?_
  refine Tc_getr (pc := 26) C 0 12 12 13 (rfl : kd 0 = 12) (by decide) (fun _ => rfl) rfl inX12 (by decide) (v := .ref (ad 390)) rfl kr_4 dX12_renderTicket_26 ?_
  refine T_bipush (pc := 29) C dX12_renderTicket_29 (by decide) ?_
  refine T_bQ (pc := 31) zk.1 hZ C [vi 35] [] (runBV C [vi 35] [] kr_10 cmb_J4_append_cf468 (C.2.2.2.2.1 _ kr_11) rfl rfl (Nat.le_of_ble_eq_true rfl) (by decide) dX12_renderTicket_31) (fun hw => cb_J4_append_cf468 zk.1 zs zp _ hB 35 (by decide) (by simp only [txL, txT, List.length_append, List.length_cons, List.length_nil] at gl ⊢; omega) hw) (a' := 3) (b' := 410) ⟨rfl, rfl⟩ (fun τ hR => ?_)
  replace hO := hO.trans hR.1
  replace hB := hR.2
  clear hR
  refine T_aload_n (pc := 34) C dX12_renderTicket_34 rfl 0 rfl ?_
  refine Tc_geti (pc := 35) C (σ 7 v1.2.2.toNat).toNat 10 0 6 y3.2 (by decide) (fun _ => rfl) rfl inX10 (by decide) rfl kr_28 dX12_renderTicket_35 (fun z0 => ?_)
  rw [congrFun (hO (σ 7 v1.2.2.toNat).toNat nr0.1 nr0.2) 0]
  have w0 : rng (σ (σ 7 v1.2.2.toNat).toNat 0) := by rw [← congrFun (hO (σ 7 v1.2.2.toNat).toNat nr0.1 nr0.2) 0]; exact z0
  refine T_bQ (pc := 38) zk.1 hZ C [vi (((σ (σ 7 v1.2.2.toNat).toNat 0).toNat : Nat) : Int)] [] (runBV C [vi (((σ (σ 7 v1.2.2.toNat).toNat 0).toNat : Nat) : Int)] [] kr_8 cmb_J4_append_bf812 (C.2.2.2.2.1 _ kr_9) rfl (by rw [Int.toNat_of_nonneg g0]; rfl) (Nat.le_of_ble_eq_true rfl) (by decide) dX12_renderTicket_38) (fun hw => cb_J4_append_bf812 zk.1 zs zp zd _ hB (σ (σ 7 v1.2.2.toNat).toNat 0).toNat (by have := w0; unfold rng at this; omega) (by simp only [txL, txT, List.length_append, List.length_cons, List.length_nil] at gl ⊢; omega) hw) (a' := 4) (b' := 612) ⟨rfl, rfl⟩ (fun τ hR => ?_)
  replace hO := hO.trans hR.1
  replace hB := hR.2
  clear hR
  refine T_pop (pc := 41) C dX12_renderTicket_41 rfl ?_
  refine T_aload_n (pc := 42) C dX12_renderTicket_42 rfl 1 rfl ?_
  refine Tc_getr (pc := 43) C 0 12 12 13 (rfl : kd 0 = 12) (by decide) (fun _ => rfl) rfl inX12 (by decide) (v := .ref (ad 390)) rfl kr_4 dX12_renderTicket_43 ?_
  refine T_bipush (pc := 46) C dX12_renderTicket_46 (by decide) ?_
  refine T_bQ (pc := 48) zk.1 hZ C [vi 32] [] (runBV C [vi 32] [] kr_10 cmb_J4_append_cf468 (C.2.2.2.2.1 _ kr_11) rfl rfl (Nat.le_of_ble_eq_true rfl) (by decide) dX12_renderTicket_48) (fun hw => cb_J4_append_cf468 zk.1 zs zp _ hB 32 (by decide) (by simp only [txL, txT, List.length_append, List.length_cons, List.length_nil] at gl ⊢; omega) hw) (a' := 5) (b' := 814) ⟨rfl, rfl⟩ (fun τ hR => ?_)
  replace hO := hO.trans hR.1
  replace hB := hR.2
  clear hR
  refine T_aload_n (pc := 51) C dX12_renderTicket_51 rfl 0 rfl ?_
  refine Tc_geti (pc := 52) C (σ 7 v1.2.2.toNat).toNat 10 1 6 y3.2 (by decide) (fun _ => rfl) rfl inX10 (by decide) rfl kr_29 dX12_renderTicket_52 (fun z1 => ?_)
  rw [congrFun (hO (σ 7 v1.2.2.toNat).toNat nr0.1 nr0.2) 1]
  have w1 : rng (σ (σ 7 v1.2.2.toNat).toNat 1) := by rw [← congrFun (hO (σ 7 v1.2.2.toNat).toNat nr0.1 nr0.2) 1]; exact z1
  refine T_bQ (pc := 55) zk.1 hZ C [vi (((σ (σ 7 v1.2.2.toNat).toNat 1).toNat : Nat) : Int)] [] (runBV C [vi (((σ (σ 7 v1.2.2.toNat).toNat 1).toNat : Nat) : Int)] [] kr_8 cmb_J4_append_bf812 (C.2.2.2.2.1 _ kr_9) rfl (by rw [Int.toNat_of_nonneg g1]; rfl) (Nat.le_of_ble_eq_true rfl) (by decide) dX12_renderTicket_55) (fun hw => cb_J4_append_bf812 zk.1 zs zp zd _ hB (σ (σ 7 v1.2.2.toNat).toNat 1).toNat (by have := w1; unfold rng at this; omega) (by simp only [txL, txT, List.length_append, List.length_cons, List.length_nil] at gl ⊢; omega) hw) (a' := 6) (b' := 1016) ⟨rfl, rfl⟩ (fun τ hR => ?_)
  replace hO := hO.trans hR.1
  replace hB := hR.2
  clear hR
  refine T_bipush (pc := 58) C dX12_renderTicket_58 (by decide) ?_
  refine T_bQ (pc := 60) zk.1 hZ C [vi 46] [] (runBV C [vi 46] [] kr_10 cmb_J4_append_cf468 (C.2.2.2.2.1 _ kr_11) rfl rfl (Nat.le_of_ble_eq_true rfl) (by decide) dX12_renderTicket_60) (fun hw => cb_J4_append_cf468 zk.1 zs zp _ hB 46 (by decide) (by simp only [txL, txT, List.length_append, List.length_cons, List.length_nil] at gl ⊢; omega) hw) (a' := 7) (b' := 1218) ⟨rfl, rfl⟩ (fun τ hR => ?_)
  replace hO := hO.trans hR.1
  replace hB := hR.2
  clear hR
  refine T_aload_n (pc := 63) C dX12_renderTicket_63 rfl 0 rfl ?_
  refine Tc_geti (pc := 64) C (σ 7 v1.2.2.toNat).toNat 10 2 6 y3.2 (by decide) (fun _ => rfl) rfl inX10 (by decide) rfl kr_30 dX12_renderTicket_64 (fun z2 => ?_)
  rw [congrFun (hO (σ 7 v1.2.2.toNat).toNat nr0.1 nr0.2) 2]
  have w2 : rng (σ (σ 7 v1.2.2.toNat).toNat 2) := by rw [← congrFun (hO (σ 7 v1.2.2.toNat).toNat nr0.1 nr0.2) 2]; exact z2
  refine T_bQ (pc := 67) zk.1 hZ C [vi (((σ (σ 7 v1.2.2.toNat).toNat 2).toNat : Nat) : Int)] [] (runBV C [vi (((σ (σ 7 v1.2.2.toNat).toNat 2).toNat : Nat) : Int)] [] kr_8 cmb_J4_append_bf812 (C.2.2.2.2.1 _ kr_9) rfl (by rw [Int.toNat_of_nonneg g2]; rfl) (Nat.le_of_ble_eq_true rfl) (by decide) dX12_renderTicket_67) (fun hw => cb_J4_append_bf812 zk.1 zs zp zd _ hB (σ (σ 7 v1.2.2.toNat).toNat 2).toNat (by have := w2; unfold rng at this; omega) (by simp only [txL, txT, List.length_append, List.length_cons, List.length_nil] at gl ⊢; omega) hw) (a' := 8) (b' := 1420) ⟨rfl, rfl⟩ (fun τ hR => ?_)
  replace hO := hO.trans hR.1
  replace hB := hR.2
  clear hR
  refine T_pop (pc := 70) C dX12_renderTicket_70 rfl ?_
  refine T_aload_n (pc := 71) C dX12_renderTicket_71 rfl 1 rfl ?_
  refine Tc_getr (pc := 72) C 0 12 12 13 (rfl : kd 0 = 12) (by decide) (fun _ => rfl) rfl inX12 (by decide) (v := .ref (ad 390)) rfl kr_4 dX12_renderTicket_72 ?_
  refine T_bipush (pc := 75) C dX12_renderTicket_75 (by decide) ?_
  refine T_bQ (pc := 77) zk.1 hZ C [vi 32] [] (runBV C [vi 32] [] kr_10 cmb_J4_append_cf468 (C.2.2.2.2.1 _ kr_11) rfl rfl (Nat.le_of_ble_eq_true rfl) (by decide) dX12_renderTicket_77) (fun hw => cb_J4_append_cf468 zk.1 zs zp _ hB 32 (by decide) (by simp only [txL, txT, List.length_append, List.length_cons, List.length_nil] at gl ⊢; omega) hw) (a' := 9) (b' := 1622) ⟨rfl, rfl⟩ (fun τ hR => ?_)
  replace hO := hO.trans hR.1
  replace hB := hR.2
  clear hR
  refine T_aload_n (pc := 80) C dX12_renderTicket_80 rfl 0 rfl ?_
  refine Tc_geti (pc := 81) C (σ 7 v1.2.2.toNat).toNat 10 3 6 y3.2 (by decide) (fun _ => rfl) rfl inX10 (by decide) rfl kr_31 dX12_renderTicket_81 (fun z3 => ?_)
  rw [congrFun (hO (σ 7 v1.2.2.toNat).toNat nr0.1 nr0.2) 3]
  have w3 : rng (σ (σ 7 v1.2.2.toNat).toNat 3) := by rw [← congrFun (hO (σ 7 v1.2.2.toNat).toNat nr0.1 nr0.2) 3]; exact z3
  refine T_bQ (pc := 84) zk.1 hZ C [vi (((σ (σ 7 v1.2.2.toNat).toNat 3).toNat : Nat) : Int)] [] (runBV C [vi (((σ (σ 7 v1.2.2.toNat).toNat 3).toNat : Nat) : Int)] [] kr_8 cmb_J4_append_bf812 (C.2.2.2.2.1 _ kr_9) rfl (by rw [Int.toNat_of_nonneg g5]; rfl) (Nat.le_of_ble_eq_true rfl) (by decide) dX12_renderTicket_84) (fun hw => cb_J4_append_bf812 zk.1 zs zp zd _ hB (σ (σ 7 v1.2.2.toNat).toNat 3).toNat (by have := w3; unfold rng at this; omega) (by simp only [txL, txT, List.length_append, List.length_cons, List.length_nil] at gl ⊢; omega) hw) (a' := 10) (b' := 1824) ⟨rfl, rfl⟩ (fun τ hR => ?_)
  replace hO := hO.trans hR.1
  replace hB := hR.2
  clear hR
  refine T_bipush (pc := 87) C dX12_renderTicket_87 (by decide) ?_
  refine T_bQ (pc := 89) zk.1 hZ C [vi 62] [] (runBV C [vi 62] [] kr_10 cmb_J4_append_cf468 (C.2.2.2.2.1 _ kr_11) rfl rfl (Nat.le_of_ble_eq_true rfl) (by decide) dX12_renderTicket_89) (fun hw => cb_J4_append_cf468 zk.1 zs zp _ hB 62 (by decide) (by simp only [txL, txT, List.length_append, List.length_cons, List.length_nil] at gl ⊢; omega) hw) (a' := 11) (b' := 2026) ⟨rfl, rfl⟩ (fun τ hR => ?_)
  replace hO := hO.trans hR.1
  replace hB := hR.2
  clear hR
  refine T_aload_n (pc := 92) C dX12_renderTicket_92 rfl 0 rfl ?_
  refine Tc_geti (pc := 93) C (σ 7 v1.2.2.toNat).toNat 10 4 6 y3.2 (by decide) (fun _ => rfl) rfl inX10 (by decide) rfl kr_32 dX12_renderTicket_93 (fun z4 => ?_)
  rw [congrFun (hO (σ 7 v1.2.2.toNat).toNat nr0.1 nr0.2) 4]
  have w4 : rng (σ (σ 7 v1.2.2.toNat).toNat 4) := by rw [← congrFun (hO (σ 7 v1.2.2.toNat).toNat nr0.1 nr0.2) 4]; exact z4
  refine T_bQ (pc := 96) zk.1 hZ C [vi (((σ (σ 7 v1.2.2.toNat).toNat 4).toNat : Nat) : Int)] [] (runBV C [vi (((σ (σ 7 v1.2.2.toNat).toNat 4).toNat : Nat) : Int)] [] kr_8 cmb_J4_append_bf812 (C.2.2.2.2.1 _ kr_9) rfl (by rw [Int.toNat_of_nonneg g6]; rfl) (Nat.le_of_ble_eq_true rfl) (by decide) dX12_renderTicket_96) (fun hw => cb_J4_append_bf812 zk.1 zs zp zd _ hB (σ (σ 7 v1.2.2.toNat).toNat 4).toNat (by have := w4; unfold rng at this; omega) (by simp only [txL, txT, List.length_append, List.length_cons, List.length_nil] at gl ⊢; omega) hw) (a' := 12) (b' := 2228) ⟨rfl, rfl⟩ (fun τ hR => ?_)
  replace hO := hO.trans hR.1
  replace hB := hR.2
  clear hR
  refine T_pop (pc := 99) C dX12_renderTicket_99 rfl ?_
  refine T_aload_n (pc := 100) C dX12_renderTicket_100 rfl 1 rfl ?_
  refine Tc_getr (pc := 101) C 0 12 12 13 (rfl : kd 0 = 12) (by decide) (fun _ => rfl) rfl inX12 (by decide) (v := .ref (ad 390)) rfl kr_4 dX12_renderTicket_101 ?_
  refine T_bipush (pc := 104) C dX12_renderTicket_104 (by decide) ?_
  refine T_bQ (pc := 106) zk.1 hZ C [vi 61] [] (runBV C [vi 61] [] kr_10 cmb_J4_append_cf468 (C.2.2.2.2.1 _ kr_11) rfl rfl (Nat.le_of_ble_eq_true rfl) (by decide) dX12_renderTicket_106) (fun hw => cb_J4_append_cf468 zk.1 zs zp _ hB 61 (by decide) (by simp only [txL, txT, List.length_append, List.length_cons, List.length_nil] at gl ⊢; omega) hw) (a' := 13) (b' := 2430) ⟨rfl, rfl⟩ (fun τ hR => ?_)
  replace hO := hO.trans hR.1
  replace hB := hR.2
  clear hR
  refine T_aload_n (pc := 109) C dX12_renderTicket_109 rfl 0 rfl ?_
  refine Tc_geti (pc := 110) C (σ 7 v1.2.2.toNat).toNat 10 5 6 y3.2 (by decide) (fun _ => rfl) rfl inX10 (by decide) rfl kr_33 dX12_renderTicket_110 (fun z5 => ?_)
  rw [congrFun (hO (σ 7 v1.2.2.toNat).toNat nr0.1 nr0.2) 5]
  have w5 : rng (σ (σ 7 v1.2.2.toNat).toNat 5) := by rw [← congrFun (hO (σ 7 v1.2.2.toNat).toNat nr0.1 nr0.2) 5]; exact z5
  refine T_bQ (pc := 113) zk.1 hZ C [vi (((σ (σ 7 v1.2.2.toNat).toNat 5).toNat : Nat) : Int)] [] (runBV C [vi (((σ (σ 7 v1.2.2.toNat).toNat 5).toNat : Nat) : Int)] [] kr_8 cmb_J4_append_bf812 (C.2.2.2.2.1 _ kr_9) rfl (by rw [Int.toNat_of_nonneg g7]; rfl) (Nat.le_of_ble_eq_true rfl) (by decide) dX12_renderTicket_113) (fun hw => cb_J4_append_bf812 zk.1 zs zp zd _ hB (σ (σ 7 v1.2.2.toNat).toNat 5).toNat (by have := w5; unfold rng at this; omega) (by simp only [txL, txT, List.length_append, List.length_cons, List.length_nil] at gl ⊢; omega) hw) (a' := 14) (b' := 2632) ⟨rfl, rfl⟩ (fun τ hR => ?_)
  replace hO := hO.trans hR.1
  replace hB := hR.2
  clear hR
  refine T_pop (pc := 116) C dX12_renderTicket_116 rfl ?_
  refine T_aload_n (pc := 117) C dX12_renderTicket_117 rfl 1 rfl ?_
  refine Tc_getr (pc := 118) C 0 12 12 13 (rfl : kd 0 = 12) (by decide) (fun _ => rfl) rfl inX12 (by decide) (v := .ref (ad 390)) rfl kr_4 dX12_renderTicket_118 ?_
  refine T_bI (pc := 121) zk.1 hZ C [] [] (runBV C [] [] kr_18 cmb_J4_length_8abf5 (C.2.2.2.2.1 _ kr_19) rfl rfl (Nat.le_of_ble_eq_true rfl) (by decide) dX12_renderTicket_121) (fun hw => cb_J4_length_8abf5 zk.1 _ hB.2.1 (by unfold rng; unfold txT at gl; omega) hw) (a' := 14) (b' := 2632) ⟨rfl, rfl⟩ (fun h5 => ?_)
  exact T_yiret (pc := 124) _ _ ⟨rfl, rfl⟩ ⟨hO, hB⟩ (fun h9 => h9.1) h5.1 (nar_I _) (by decide) dX12_renderTicket_124
abbrev rm_X12_outputAt : Room := ⟨6, 1, 6, 96⟩
theorem cm_X12_outputAt : cmV yX12_outputAt cX12_outputAt 2 (some .char) 1 := ⟨kr_41, kr_22, ⟨by decide +kernel, by decide +kernel, by decide +kernel⟩, kr_42, kr_43⟩
theorem ct_X12_outputAt {l : Launch} {cy : Nat → ClassId} {ad : Nat → Nat} {E : Nat → Nat → Nat} {G : va_G} {Z : vZ} {sa : Nat → Nat} (zk : Zk Z E) (zy : Zy Z E sa) (zs : ZS Z E) (zp : ZP Z) (zd : ZD Z E) (hst : l.stackTraces = false) (σ : Sm) (x1 : Int) (h1 : rng x1) (hw : wfc σ) (o : So Sm) (h : f_X12_outputAt σ x1 = some o) : CxI Z l yX12_outputAt cX12_outputAt 2 (some .char) rm_X12_outputAt (wlc cy ad E) wfc G (tyc cy) [.ref (ad 0), vi x1] σ o := by
  refine cxI_of zk.1 zy.1 hst (by decide) (Nat.le_of_ble_eq_true rfl) hw o h (fun X A Q hZ hX C => ?_)
  replace hst : X.2.1.stackTraces = false := by rw [hX]; exact hst
  replace C : Cx X (Yc cy ad E G A 2 Q) cX12_outputAt RX12 (some .char) rm_X12_outputAt (tyc cy) := C
  replace hZ : Zx Z X (Yc cy ad E G A 2 Q) := hZ
  show T X (Yc cy ad E G A 2 Q) (fun w => EndXI X (Yc cy ad E G A 2 Q) cX12_outputAt rm_X12_outputAt .char w ∧ EndX X (Yc cy ad E G A 2 Q) cX12_outputAt RX12 rm_X12_outputAt w) 0 0 0 [(0, .ref (ad 0)), (1, vi x1)] [] σ (f_X12_outputAt σ x1)
  unfold f_X12_outputAt
  refine T_guard (fun g => ?_)
  obtain ⟨g1, g2, g3, g4⟩ := g
  refine T_iload_n (pc := 0) C dX12_outputAt_0 rfl 1 rfl ?_
  refine T_if_lt (pc := 1) C 15 dX12_outputAt_1 rfl h1 (fun c1 => ?_) (fun c1 => ?_)
  · exact T_throw (pc := 15) 1 (σ, 1, 0) (fun h9 => h9.2) (by decide) (sa 392) "no such index" "java/lang/IndexOutOfBoundsException" rfl ["java/lang/RuntimeException", "java/lang/Exception"] (by decide +kernel) (by decide +kernel) kr_37 kr_38 (zy.2.1 _ _ _ hZ (392, "no such index") (List.mem_of_getElem? (i := 12) rfl)) (xn_at zy hZ xa_0) (by decide) (by decide) (by decide) dX12_outputAt_15 dX12_outputAt_18 (Or.inr ⟨dX12_outputAt_19, dX12_outputAt_22, dX12_outputAt_25⟩)
  · refine T_iload_n (pc := 4) C dX12_outputAt_4 rfl 1 rfl ?_
    refine T_aload_n (pc := 5) C dX12_outputAt_5 rfl 0 rfl ?_
    refine Tc_getr (pc := 6) C 0 12 12 13 (rfl : kd 0 = 12) (by decide) (fun _ => rfl) rfl inX12 (by decide) (v := .ref (ad 390)) rfl kr_4 dX12_outputAt_6 ?_
    refine T_bI (pc := 9) zk.1 hZ C [] [vi x1] (runBV C [] [vi x1] kr_18 cmb_J4_length_8abf5 (C.2.2.2.2.1 _ kr_19) rfl rfl (Nat.le_of_ble_eq_true rfl) (by decide) dX12_outputAt_9) (fun hw => cb_J4_length_8abf5 zk.1 (σ 390 3) rfl (by unfold rng; omega) hw) (a' := 0) (b' := 0) ⟨rfl, rfl⟩ (fun h5 => ?_)
    refine T_icmp_lt (pc := 12) C 26 dX12_outputAt_12 rfl h1 (by unfold rng; omega) (fun c2 => ?_) (fun c2 => ?_)
    · refine T_guard (fun g8 => ?_)
      refine T_aload_n (pc := 26) C dX12_outputAt_26 rfl 0 rfl ?_
      refine Tc_getr (pc := 27) C 0 12 12 13 (rfl : kd 0 = 12) (by decide) (fun _ => rfl) rfl inX12 (by decide) (v := .ref (ad 390)) rfl kr_4 dX12_outputAt_27 ?_
      refine T_iload_n (pc := 30) C dX12_outputAt_30 rfl 1 rfl ?_
      refine T_bI (pc := 31) zk.1 hZ C [vi x1] [] (runBV C [vi x1] [] kr_39 cmb_J4_charAt_5068e (C.2.2.2.2.1 _ kr_40) rfl rfl (Nat.le_of_ble_eq_true rfl) (by decide) dX12_outputAt_31) (fun hw => cb_J4_charAt_5068e zk.1 zs g1 x1 (by omega) (by omega) g8 hw) (a' := 0) (b' := 0) ⟨rfl, rfl⟩ (fun h5 => ?_)
      exact T_xiret (pc := 34) (σ, 0, σ 391 x1.toNat) (σ, 0, σ 391 x1.toNat) rfl (fun h9 => h9.1) h5.1 (h5.2 _ rfl) (by decide) dX12_outputAt_34
    · exact T_throw (pc := 15) 1 (σ, 1, 0) (fun h9 => h9.2) (by decide) (sa 392) "no such index" "java/lang/IndexOutOfBoundsException" rfl ["java/lang/RuntimeException", "java/lang/Exception"] (by decide +kernel) (by decide +kernel) kr_37 kr_38 (zy.2.1 _ _ _ hZ (392, "no such index") (List.mem_of_getElem? (i := 12) rfl)) (xn_at zy hZ xa_0) (by decide) (by decide) (by decide) dX12_outputAt_15 dX12_outputAt_18 (Or.inr ⟨dX12_outputAt_19, dX12_outputAt_22, dX12_outputAt_25⟩)
