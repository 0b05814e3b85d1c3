theorem kh_0 : Cond.code yX12_renderLine cX12_renderLine 4 (some .int) ∈ lwG := lwG_of (tb_6 (List.mem_of_getElem? (i := 152) (by decide +kernel))) (by decide +kernel)
theorem kh_1 : Cond.code yX12_renderTicket cX12_renderTicket 3 (some .int) ∈ lwG := lwG_of (tb_7 (List.mem_of_getElem? (i := 194) (by decide +kernel))) (by decide +kernel)
theorem kh_2 : Cond.code yX12_outputAt cX12_outputAt 2 (some .char) ∈ lwG := lwG_of (tb_7 (List.mem_of_getElem? (i := 201) (by decide +kernel))) (by decide +kernel)
theorem kh_3 : Cond.methodLink RL 152 yX12_renderLine ∈ lwG := lwG_of (tb_6 (List.mem_of_getElem? (i := 149) (by decide +kernel))) (by decide +kernel)
theorem kh_4 : Cond.classLink RL 21 "java/lang/IndexOutOfBoundsException" ∈ lwG := lwG_of (tb_4 (List.mem_of_getElem? (i := 106) (by decide +kernel))) (by decide +kernel)
theorem kh_5 : Cond.codeWith yL_renderLine cL_renderLine 4 (some .int) [(0, 9, 12, 21)] ∈ lwG := lwG_of (tb_6 (List.mem_of_getElem? (i := 148) (by decide +kernel))) (by decide +kernel)
theorem kh_6 : Cond.initialized RL ∈ lwG := lwG_of (tb_1 (List.mem_of_getElem? (i := 0) (by decide +kernel))) (by decide +kernel)
theorem kh_7 : Cond.static yL_renderLine ∈ lwG := lwG_of (tb_6 (List.mem_of_getElem? (i := 147) (by decide +kernel))) (by decide +kernel)
theorem kh_8 : Cond.methodLink RL 155 yX12_renderTicket ∈ lwG := lwG_of (tb_7 (List.mem_of_getElem? (i := 191) (by decide +kernel))) (by decide +kernel)
theorem kh_9 : Cond.classLink RL 27 "java/util/NoSuchElementException" ∈ lwG := lwG_of (tb_4 (List.mem_of_getElem? (i := 148) (by decide +kernel))) (by decide +kernel)
theorem kh_10 : Cond.codeWith yL_renderTicket cL_renderTicket 4 (some .int) [(0, 9, 12, 27)] ∈ lwG := lwG_of (tb_7 (List.mem_of_getElem? (i := 190) (by decide +kernel))) (by decide +kernel)
theorem kh_11 : Cond.static yL_renderTicket ∈ lwG := lwG_of (tb_7 (List.mem_of_getElem? (i := 189) (by decide +kernel))) (by decide +kernel)
theorem kh_12 : Cond.methodLink RL 158 yX12_outputAt ∈ lwG := lwG_of (tb_7 (List.mem_of_getElem? (i := 198) (by decide +kernel))) (by decide +kernel)
theorem kh_13 : Cond.codeWith yL_outputAt cL_outputAt 4 (some .int) [(0, 9, 12, 21)] ∈ lwG := lwG_of (tb_7 (List.mem_of_getElem? (i := 197) (by decide +kernel))) (by decide +kernel)
theorem kh_14 : Cond.static yL_outputAt ∈ lwG := lwG_of (tb_7 (List.mem_of_getElem? (i := 196) (by decide +kernel))) (by decide +kernel)
abbrev rm_L_renderLine : Room := ⟨8, 60, 6000, 158⟩
theorem cm_L_renderLine : cmL yL_renderLine cL_renderLine 4 [(0, 9, 12, 21)] 3 := ⟨kh_5, kh_6, ⟨by decide +kernel, by decide +kernel, by decide +kernel⟩, kh_7⟩
def f_L_renderLine (N : Nat) (σ : SL) (x1 : Int) : Option SR :=
  (f_X12_renderLine σ.1 x1).bind fun r1 => if r1.1.2.1 = 0 then some (((r1.1.1, σ.2.1, r1.1.2.2, σ.2.2.2), 0), r1.2) else (if r1.1.2.1 = 1 then some (((r1.1.1, σ.2), 1), []) else none)
theorem ct_L_renderLine {l : Launch} {cy : Nat → ClassId} {adc adm : Nat → Nat} {E : Nat → Nat → Nat} {G : va_G} {Z : vZ} {sa : Nat → Nat} (zk : Zk Z E) (zy : Zy Z E sa) (zs : ZS Z E) (zE : ZE Z) (zp : ZP Z) (zd : ZD Z E) (hst : l.stackTraces = false) (N : Nat) (σ : SL) (x1 : Int) (h1 : rng x1) (t0 : List Int) (hB0 : BI σ.1 t0) (hw : wfL σ) (o : SR) (h : f_L_renderLine N σ x1 = some o) : ClR Z l yL_renderLine cL_renderLine 4 [(0, 9, 12, 21)] rm_L_renderLine cy adc adm E G [.ref (adc 0), vi x1, .ref (adm 11)] σ o := by
  refine clR_of (by decide) (Nat.le_of_ble_eq_true rfl) hw o h (fun X A Q hZ hX htab C => ?_)
  replace hst : X.2.1.stackTraces = false := by rw [hX]; exact hst
  replace C : Cx X (YL cy adc adm E G A 4 Q) cL_renderLine RL (some .int) rm_L_renderLine (tyL cy) := C
  replace hZ : Zx Z X (YL cy adc adm E G A 4 Q) := hZ
  show T X (YL cy adc adm E G A 4 Q) (fun w => EndR X (YL cy adc adm E G A 4 Q) cL_renderLine rm_L_renderLine .int w) 0 0 0 [(0, .ref (adc 0)), (1, vi x1), (2, .ref (adm 11))] [] σ (f_L_renderLine N σ x1)
  unfold f_L_renderLine
  refine T_aload_n (pc := 0) C dL_renderLine_0 rfl 2 rfl ?_
  refine T_iconst (pc := 1) C dL_renderLine_1 ?_
  refine T_aload_n (pc := 2) C dL_renderLine_2 rfl 0 rfl ?_
  refine T_iload_n (pc := 3) C dL_renderLine_3 rfl 1 rfl ?_
  refine T_lyi (pc := 4) zk.1 hZ C [vi x1] [vi 0, .ref (adm 11)] (fun o h9 hw => ct_X12_renderLine zk zy zs zp zd hst σ.1 x1 h1 t0 hB0 hw o h9) kh_3 cm_X12_renderLine (rcc (rfl : kd 0 = 12) (by decide) (fun _ => rfl) rfl) rfl rfl (Nat.le_of_ble_eq_true rfl) (by decide) (a' := 60) (b' := 6000) ⟨rfl, rfl⟩ dL_renderLine_4 (fun r1 => ?_) (fun r1 τ1 hB1 hr1 => ?_)
  · refine TX_ite (fun e2 => ?_) ?_
    · refine TX_catch zy.2.2.2.2 zE hZ C htab 1 e2 [] [] (0, 9, 12, 21) rfl (List.forall_mem_nil _) (by decide) (by decide) kh_4 (by decide +kernel) (fun q3 => ?_)
      refine T_astore_n (pc := 12) (L' := [(3, .ref q3), (0, .ref (adc 0)), (1, vi x1), (2, .ref (adm 11))]) C dL_renderLine_12 rfl (Nat.le_of_ble_eq_true rfl) rfl ?_
      refine T_iconst (pc := 13) C dL_renderLine_13 ?_
      exact T_rret (pc := 14) (((r1.1.1, σ.2), 1), []) (((r1.1.1, σ.2), 1), []) rfl ⟨rfl, fun h => absurd h (show ¬ ((1 : Int) = 0) by decide), fun _ => rfl⟩ (fun h9 => h9) (rngL rfl) (nar_I _) (by decide) dL_renderLine_14
    exact TX_none
  · refine T_i2l (pc := 7) C hr1.1 dL_renderLine_7 ?_
    refine T_last (pc := 8) C hr1.1 dL_renderLine_8 ?_
    refine T_goto (pc := 9) C 15 dL_renderLine_9 rfl ?_
    refine T_iconst (pc := 15) C dL_renderLine_15 ?_
    exact T_rret (pc := 16) ((((r1.1.1, σ.2).1, (r1.1.1, σ.2).2.1, r1.1.2.2, (r1.1.1, σ.2).2.2.2), 0), r1.2) ((((r1.1.1, σ.2).1, (r1.1.1, σ.2).2.1, r1.1.2.2, (r1.1.1, σ.2).2.2.2), 0), r1.2) rfl ⟨rfl, fun _ => hB1, fun h => absurd rfl h⟩ (fun h9 => h9) (rngL rfl) (nar_I _) (by decide) dL_renderLine_16
abbrev rm_L_renderTicket : Room := ⟨8, 60, 6000, 157⟩
theorem cm_L_renderTicket : cmL yL_renderTicket cL_renderTicket 4 [(0, 9, 12, 27)] 3 := ⟨kh_10, kh_6, ⟨by decide +kernel, by decide +kernel, by decide +kernel⟩, kh_11⟩
def f_L_renderTicket (N : Nat) (σ : SL) (x1 : Int) : Option SR :=
  (f_X12_renderTicket N σ.1 x1).bind fun r1 => if r1.1.2.1 = 0 then some (((r1.1.1, σ.2.1, r1.1.2.2, σ.2.2.2), 0), r1.2) else (if r1.1.2.1 = 4 then some (((r1.1.1, σ.2), 1), []) else none)
theorem ct_L_renderTicket {l : Launch} {cy : Nat → ClassId} {adc adm : Nat → Nat} {E : Nat → Nat → Nat} {G : va_G} {Z : vZ} {sa : Nat → Nat} (zk : Zk Z E) (zy : Zy Z E sa) (zs : ZS Z E) (zE : ZE Z) (zp : ZP Z) (zd : ZD Z E) (hst : l.stackTraces = false) (N : Nat) (σ : SL) (x1 : Int) (h1 : rng x1) (t0 : List Int) (hB0 : BI σ.1 t0) (hw : wfL σ) (o : SR) (h : f_L_renderTicket N σ x1 = some o) : ClR Z l yL_renderTicket cL_renderTicket 4 [(0, 9, 12, 27)] rm_L_renderTicket cy adc adm E G [.ref (adc 0), vi x1, .ref (adm 11)] σ o := by
  refine clR_of (by decide) (Nat.le_of_ble_eq_true rfl) hw o h (fun X A Q hZ hX htab C => ?_)
  replace hst : X.2.1.stackTraces = false := by rw [hX]; exact hst
  replace C : Cx X (YL cy adc adm E G A 4 Q) cL_renderTicket RL (some .int) rm_L_renderTicket (tyL cy) := C
  replace hZ : Zx Z X (YL cy adc adm E G A 4 Q) := hZ
  show T X (YL cy adc adm E G A 4 Q) (fun w => EndR X (YL cy adc adm E G A 4 Q) cL_renderTicket rm_L_renderTicket .int w) 0 0 0 [(0, .ref (adc 0)), (1, vi x1), (2, .ref (adm 11))] [] σ (f_L_renderTicket N σ x1)
  unfold f_L_renderTicket
  refine T_aload_n (pc := 0) C dL_renderTicket_0 rfl 2 rfl ?_
  refine T_iconst (pc := 1) C dL_renderTicket_1 ?_
  refine T_aload_n (pc := 2) C dL_renderTicket_2 rfl 0 rfl ?_
  refine T_iload_n (pc := 3) C dL_renderTicket_3 rfl 1 rfl ?_
  refine T_lyi (pc := 4) zk.1 hZ C [vi x1] [vi 0, .ref (adm 11)] (fun o h9 hw => ct_X12_renderTicket zk zy zs zp zd hst N σ.1 x1 h1 t0 hB0 hw o h9) kh_8 cm_X12_renderTicket (rcc (rfl : kd 0 = 12) (by decide) (fun _ => rfl) rfl) rfl rfl (Nat.le_of_ble_eq_true rfl) (by decide) (a' := 60) (b' := 6000) ⟨rfl, rfl⟩ dL_renderTicket_4 (fun r1 => ?_) (fun r1 τ1 hB1 hr1 => ?_)
  · refine TX_ite (fun e2 => ?_) ?_
    · refine TX_catch zy.2.2.2.2 zE hZ C htab 4 e2 [] [] (0, 9, 12, 27) rfl (List.forall_mem_nil _) (by decide) (by decide) kh_9 (by decide +kernel) (fun q3 => ?_)
      refine T_astore_n (pc := 12) (L' := [(3, .ref q3), (0, .ref (adc 0)), (1, vi x1), (2, .ref (adm 11))]) C dL_renderTicket_12 rfl (Nat.le_of_ble_eq_true rfl) rfl ?_
      refine T_iconst (pc := 13) C dL_renderTicket_13 ?_
      exact T_rret (pc := 14) (((r1.1.1, σ.2), 1), []) (((r1.1.1, σ.2), 1), []) rfl ⟨rfl, fun h => absurd h (show ¬ ((1 : Int) = 0) by decide), fun _ => rfl⟩ (fun h9 => h9) (rngL rfl) (nar_I _) (by decide) dL_renderTicket_14
    exact TX_none
  · refine T_i2l (pc := 7) C hr1.1 dL_renderTicket_7 ?_
    refine T_last (pc := 8) C hr1.1 dL_renderTicket_8 ?_
    refine T_goto (pc := 9) C 15 dL_renderTicket_9 rfl ?_
    refine T_iconst (pc := 15) C dL_renderTicket_15 ?_
    exact T_rret (pc := 16) ((((r1.1.1, σ.2).1, (r1.1.1, σ.2).2.1, r1.1.2.2, (r1.1.1, σ.2).2.2.2), 0), r1.2) ((((r1.1.1, σ.2).1, (r1.1.1, σ.2).2.1, r1.1.2.2, (r1.1.1, σ.2).2.2.2), 0), r1.2) rfl ⟨rfl, fun _ => hB1, fun h => absurd rfl h⟩ (fun h9 => h9) (rngL rfl) (nar_I _) (by decide) dL_renderTicket_16
abbrev rm_L_outputAt : Room := ⟨7, 1, 6, 117⟩
theorem cm_L_outputAt : cmL yL_outputAt cL_outputAt 4 [(0, 9, 12, 21)] 3 := ⟨kh_13, kh_6, ⟨by decide +kernel, by decide +kernel, by decide +kernel⟩, kh_14⟩
def f_L_outputAt (N : Nat) (σ : SL) (x1 : Int) : Option (SL × Int) :=
  (f_X12_outputAt σ.1 x1).bind fun r1 => if r1.2.1 = 0 then some (((r1.1, σ.2).1, (r1.1, σ.2).2.1, r1.2.2, (r1.1, σ.2).2.2.2), 0) else (if r1.2.1 = 1 then some ((r1.1, σ.2), 1) else none)
theorem ct_L_outputAt {l : Launch} {cy : Nat → ClassId} {adc adm : Nat → Nat} {E : Nat → Nat → Nat} {G : va_G} {Z : vZ} {sa : Nat → Nat} (zk : Zk Z E) (zy : Zy Z E sa) (zs : ZS Z E) (zE : ZE Z) (zp : ZP Z) (zd : ZD Z E) (hst : l.stackTraces = false) (N : Nat) (σ : SL) (x1 : Int) (h1 : rng x1) (hw : wfL σ) (o : SL × Int) (h : f_L_outputAt N σ x1 = some o) : ClI Z l yL_outputAt cL_outputAt 4 [(0, 9, 12, 21)] rm_L_outputAt cy adc adm E G [.ref (adc 0), vi x1, .ref (adm 11)] σ o.1 o.2 := by
  refine clI_of (by decide) (Nat.le_of_ble_eq_true rfl) hw o h (fun X A Q hZ hX htab C => ?_)
  replace hst : X.2.1.stackTraces = false := by rw [hX]; exact hst
  replace C : Cx X (YL cy adc adm E G A 4 Q) cL_outputAt RL (some .int) rm_L_outputAt (tyL cy) := C
  replace hZ : Zx Z X (YL cy adc adm E G A 4 Q) := hZ
  show T X (YL cy adc adm E G A 4 Q) (fun w => EndI X (YL cy adc adm E G A 4 Q) cL_outputAt rm_L_outputAt .int w) 0 0 0 [(0, .ref (adc 0)), (1, vi x1), (2, .ref (adm 11))] [] σ (f_L_outputAt N σ x1)
  unfold f_L_outputAt
  refine T_aload_n (pc := 0) C dL_outputAt_0 rfl 2 rfl ?_
  refine T_iconst (pc := 1) C dL_outputAt_1 ?_
  refine T_aload_n (pc := 2) C dL_outputAt_2 rfl 0 rfl ?_
  refine T_iload_n (pc := 3) C dL_outputAt_3 rfl 1 rfl ?_
  refine T_lxi (pc := 4) zk.1 hZ C [vi x1] [vi 0, .ref (adm 11)] (fun o h9 hw => ct_X12_outputAt zk zy zs zp zd hst σ.1 x1 h1 hw o h9) kh_12 cm_X12_outputAt (rcc (rfl : kd 0 = 12) (by decide) (fun _ => rfl) rfl) rfl rfl (Nat.le_of_ble_eq_true rfl) (by decide) (a' := 1) (b' := 6) ⟨rfl, rfl⟩ dL_outputAt_4 (fun r1 => ?_) (fun r1 hr1 => ?_)
  · refine TX_ite (fun e2 => ?_) ?_
    · refine TX_catch zy.2.2.2.2 zE hZ C htab 1 e2 [] [] (0, 9, 12, 21) rfl (List.forall_mem_nil _) (by decide) (by decide) kh_4 (by decide +kernel) (fun q3 => ?_)
      refine T_astore_n (pc := 12) (L' := [(3, .ref q3), (0, .ref (adc 0)), (1, vi x1), (2, .ref (adm 11))]) C dL_outputAt_12 rfl (Nat.le_of_ble_eq_true rfl) rfl ?_
      refine T_iconst (pc := 13) C dL_outputAt_13 ?_
      exact T_iret (pc := 14) ((r1.1, σ.2), 1) (fun h9 => h9) (rngL rfl) (nar_I _) (by decide) dL_outputAt_14
    exact TX_none
  · refine T_i2l (pc := 7) C hr1.1 dL_outputAt_7 ?_
    refine T_last (pc := 8) C hr1.1 dL_outputAt_8 ?_
    refine T_goto (pc := 9) C 15 dL_outputAt_9 rfl ?_
    refine T_iconst (pc := 15) C dL_outputAt_15 ?_
    exact T_iret (pc := 16) (((r1.1, σ.2).1, (r1.1, σ.2).2.1, r1.2.2, (r1.1, σ.2).2.2.2), 0) (fun h9 => h9) (rngL rfl) (nar_I _) (by decide) dL_outputAt_16
