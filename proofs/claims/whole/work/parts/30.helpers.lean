abbrev rm_L_addStop : Room := ⟨8, 1, 6, 149⟩
theorem cm_L_addStop : cmL yL_addStop cL_addStop 4 [(0, 9, 12, 13), (0, 9, 15, 15)] 3 := ⟨kl_3, kl_4, ⟨by decide +kernel, by decide +kernel, by decide +kernel⟩, kl_5⟩
def f_L_addStop (N : Nat) (σ : SL) (x1 : Int) : Option (SL × Int) :=
  (f_X12_addStop N σ.1 x1).bind fun r1 => if r1.2.1 = 0 then some (((r1.1, σ.2).1, (r1.1, σ.2).2.1, r1.2.2, (r1.1, σ.2).2.2.2), 0) else (if r1.2.1 = 2 then some ((r1.1, σ.2), 1) else (if r1.2.1 = 3 then some ((r1.1, σ.2), 2) else none))
theorem ct_L_addStop {l : Launch} {cy : Nat → ClassId} {adc adm : Nat → Nat} {E : Nat → Nat → Nat} {G : va_G} {Z : vZ} {sa : Nat → Nat} (zk : Zk Z E) (zy : Zy Z E sa) (zs : ZS Z E) (zE : ZE Z) (hst : l.stackTraces = false) (N : Nat) (σ : SL) (x1 : Int) (h1 : rng x1) (hw : wfL σ) (o : SL × Int) (h : f_L_addStop N σ x1 = some o) : ClI Z l yL_addStop cL_addStop 4 [(0, 9, 12, 13), (0, 9, 15, 15)] rm_L_addStop cy adc adm E G [.ref (adc 0), vi x1, .ref (adm 11)] σ o.1 o.2 := by
  refine clI_of (by decide) (Nat.le_of_ble_eq_true rfl) hw o h (fun X A Q hZ hX htab C => ?_)
  replace hst : X.2.1.stackTraces = false := by rw [hX]; exact hst
  replace C : Cx X (YL cy adc adm E G A 4 Q) cL_addStop RL (some .int) rm_L_addStop (tyL cy) := C
  replace hZ : Zx Z X (YL cy adc adm E G A 4 Q) := hZ
  show T X (YL cy adc adm E G A 4 Q) (fun w => EndI X (YL cy adc adm E G A 4 Q) cL_addStop rm_L_addStop .int w) 0 0 0 [(0, .ref (adc 0)), (1, vi x1), (2, .ref (adm 11))] [] σ (f_L_addStop N σ x1)
  unfold f_L_addStop
  refine T_aload_n (pc := 0) C dL_addStop_0 rfl 2 rfl ?_
  refine T_iconst (pc := 1) C dL_addStop_1 ?_
  refine T_aload_n (pc := 2) C dL_addStop_2 rfl 0 rfl ?_
  refine T_iload_n (pc := 3) C dL_addStop_3 rfl 1 rfl ?_
  refine T_lxi (pc := 4) zk.1 hZ C [vi x1] [vi 0, .ref (adm 11)] (fun o h9 hw => ct_X12_addStop zk zy hst N σ.1 x1 h1 hw o h9) kl_0 cm_X12_addStop (rcc (rfl : kd 0 = 12) (by decide) (fun _ => rfl) rfl) rfl rfl (Nat.le_of_ble_eq_true rfl) (by decide) (a' := 1) (b' := 6) ⟨rfl, rfl⟩ dL_addStop_4 (fun r1 => ?_) (fun r1 hr1 => ?_)
  · refine TX_ite (fun e2 => ?_) ?_
    · refine TX_catch zy.2.2.2.2 zE hZ C htab 2 e2 [] [(0, 9, 15, 15)] (0, 9, 12, 13) rfl (List.forall_mem_nil _) (by decide) (by decide) kl_1 (by decide +kernel) (fun q3 => ?_)
      refine T_astore_n (pc := 12) (L' := [(3, .ref q3), (0, .ref (adc 0)), (1, vi x1), (2, .ref (adm 11))]) C dL_addStop_12 rfl (Nat.le_of_ble_eq_true rfl) rfl ?_
      refine T_iconst (pc := 13) C dL_addStop_13 ?_
      exact T_iret (pc := 14) ((r1.1, σ.2), 1) (fun h9 => h9) (rngL rfl) (nar_I _) (by decide) dL_addStop_14
    refine TX_ite (fun e4 => ?_) ?_
    · refine TX_catch zy.2.2.2.2 zE hZ C htab 3 e4 [(0, 9, 12, 13)] [] (0, 9, 15, 15) rfl (List.forall_mem_cons.mpr ⟨⟨by decide, 2, kl_1, by decide⟩, (List.forall_mem_nil _)⟩) (by decide) (by decide) kl_2 (by decide +kernel) (fun q5 => ?_)
      refine T_astore_n (pc := 15) (L' := [(3, .ref q5), (0, .ref (adc 0)), (1, vi x1), (2, .ref (adm 11))]) C dL_addStop_15 rfl (Nat.le_of_ble_eq_true rfl) rfl ?_
      refine T_iconst (pc := 16) C dL_addStop_16 ?_
      exact T_iret (pc := 17) ((r1.1, σ.2), 2) (fun h9 => h9) (rngL rfl) (nar_I _) (by decide) dL_addStop_17
    exact TX_none
  · refine T_i2l (pc := 7) C hr1.1 dL_addStop_7 ?_
    refine T_last (pc := 8) C hr1.1 dL_addStop_8 ?_
    refine T_goto (pc := 9) C 18 dL_addStop_9 rfl ?_
    refine T_iconst (pc := 18) C dL_addStop_18 ?_
    exact T_iret (pc := 19) (((r1.1, σ.2).1, (r1.1, σ.2).2.1, r1.2.2, (r1.1, σ.2).2.2.2), 0) (fun h9 => h9) (rngL rfl) (nar_I _) (by decide) dL_addStop_19
abbrev rm_L_addWalk : Room := ⟨8, 1, 6, 151⟩
theorem cm_L_addWalk : cmL yL_addWalk cL_addWalk 6 [(0, 12, 15, 21), (0, 12, 19, 13), (0, 12, 23, 15)] 5 := ⟨kl_8, kl_4, ⟨by decide +kernel, by decide +kernel, by decide +kernel⟩, kl_9⟩
def f_L_addWalk (N : Nat) (σ : SL) (x1 : Int) (x2 : Int) (x3 : Int) : Option (SL × Int) :=
  (f_X12_addWalk N σ.1 x1 x2 x3).bind fun r1 => if r1.2.1 = 0 then some (((r1.1, σ.2).1, (r1.1, σ.2).2.1, r1.2.2, (r1.1, σ.2).2.2.2), 0) else (if r1.2.1 = 1 then some ((r1.1, σ.2), 1) else (if r1.2.1 = 2 then some ((r1.1, σ.2), 2) else (if r1.2.1 = 3 then some ((r1.1, σ.2), 3) else none)))
theorem ct_L_addWalk {l : Launch} {cy : Nat → ClassId} {adc adm : Nat → Nat} {E : Nat → Nat → Nat} {G : va_G} {Z : vZ} {sa : Nat → Nat} (zk : Zk Z E) (zy : Zy Z E sa) (zs : ZS Z E) (zE : ZE Z) (hst : l.stackTraces = false) (N : Nat) (σ : SL) (x1 : Int) (x2 : Int) (x3 : Int) (h1 : rng x1) (h2 : rng x2) (h3 : rng x3) (hw : wfL σ) (o : SL × Int) (h : f_L_addWalk N σ x1 x2 x3 = some o) : ClI Z l yL_addWalk cL_addWalk 6 [(0, 12, 15, 21), (0, 12, 19, 13), (0, 12, 23, 15)] rm_L_addWalk cy adc adm E G [.ref (adc 0), vi x1, vi x2, vi x3, .ref (adm 11)] σ o.1 o.2 := by
  refine clI_of (by decide) (Nat.le_of_ble_eq_true rfl) hw o h (fun X A Q hZ hX htab C => ?_)
  replace hst : X.2.1.stackTraces = false := by rw [hX]; exact hst
  replace C : Cx X (YL cy adc adm E G A 6 Q) cL_addWalk RL (some .int) rm_L_addWalk (tyL cy) := C
  replace hZ : Zx Z X (YL cy adc adm E G A 6 Q) := hZ
  show T X (YL cy adc adm E G A 6 Q) (fun w => EndI X (YL cy adc adm E G A 6 Q) cL_addWalk rm_L_addWalk .int w) 0 0 0 [(0, .ref (adc 0)), (1, vi x1), (2, vi x2), (3, vi x3), (4, .ref (adm 11))] [] σ (f_L_addWalk N σ x1 x2 x3)
  unfold f_L_addWalk
  refine T_aload (pc := 0) C dL_addWalk_0 4 rfl ?_
  refine T_iconst (pc := 2) C dL_addWalk_2 ?_
  refine T_aload_n (pc := 3) C dL_addWalk_3 rfl 0 rfl ?_
  refine T_iload_n (pc := 4) C dL_addWalk_4 rfl 1 rfl ?_
  refine T_iload_n (pc := 5) C dL_addWalk_5 rfl 2 rfl ?_
  refine T_iload_n (pc := 6) C dL_addWalk_6 rfl 3 rfl ?_
  refine T_lxi (pc := 7) zk.1 hZ C [vi x1, vi x2, vi x3] [vi 0, .ref (adm 11)] (fun o h9 hw => ct_X12_addWalk zk zy hst N σ.1 x1 x2 x3 h1 h2 h3 hw o h9) kl_6 cm_X12_addWalk (rcc (rfl : kd 0 = 12) (by decide) (fun _ => rfl) rfl) rfl rfl (Nat.le_of_ble_eq_true rfl) (by decide) (a' := 1) (b' := 6) ⟨rfl, rfl⟩ dL_addWalk_7 (fun r1 => ?_) (fun r1 hr1 => ?_)
  · refine TX_ite (fun e2 => ?_) ?_
    · refine TX_catch zy.2.2.2.2 zE hZ C htab 1 e2 [] [(0, 12, 19, 13), (0, 12, 23, 15)] (0, 12, 15, 21) rfl (List.forall_mem_nil _) (by decide) (by decide) kl_7 (by decide +kernel) (fun q3 => ?_)
      refine T_astore (pc := 15) (L' := [(5, .ref q3), (0, .ref (adc 0)), (1, vi x1), (2, vi x2), (3, vi x3), (4, .ref (adm 11))]) C dL_addWalk_15 (Nat.le_of_ble_eq_true rfl) rfl ?_
      refine T_iconst (pc := 17) C dL_addWalk_17 ?_
      exact T_iret (pc := 18) ((r1.1, σ.2), 1) (fun h9 => h9) (rngL rfl) (nar_I _) (by decide) dL_addWalk_18
    refine TX_ite (fun e4 => ?_) ?_
    · refine TX_catch zy.2.2.2.2 zE hZ C htab 2 e4 [(0, 12, 15, 21)] [(0, 12, 23, 15)] (0, 12, 19, 13) rfl (List.forall_mem_cons.mpr ⟨⟨by decide, 1, kl_7, by decide⟩, (List.forall_mem_nil _)⟩) (by decide) (by decide) kl_1 (by decide +kernel) (fun q5 => ?_)
      refine T_astore (pc := 19) (L' := [(5, .ref q5), (0, .ref (adc 0)), (1, vi x1), (2, vi x2), (3, vi x3), (4, .ref (adm 11))]) C dL_addWalk_19 (Nat.le_of_ble_eq_true rfl) rfl ?_
      refine T_iconst (pc := 21) C dL_addWalk_21 ?_
      exact T_iret (pc := 22) ((r1.1, σ.2), 2) (fun h9 => h9) (rngL rfl) (nar_I _) (by decide) dL_addWalk_22
    refine TX_ite (fun e6 => ?_) ?_
    · refine TX_catch zy.2.2.2.2 zE hZ C htab 3 e6 [(0, 12, 15, 21), (0, 12, 19, 13)] [] (0, 12, 23, 15) rfl (List.forall_mem_cons.mpr ⟨⟨by decide, 1, kl_7, by decide⟩, (List.forall_mem_cons.mpr ⟨⟨by decide, 2, kl_1, by decide⟩, (List.forall_mem_nil _)⟩)⟩) (by decide) (by decide) kl_2 (by decide +kernel) (fun q7 => ?_)
      refine T_astore (pc := 23) (L' := [(5, .ref q7), (0, .ref (adc 0)), (1, vi x1), (2, vi x2), (3, vi x3), (4, .ref (adm 11))]) C dL_addWalk_23 (Nat.le_of_ble_eq_true rfl) rfl ?_
      refine T_iconst (pc := 25) C dL_addWalk_25 ?_
      exact T_iret (pc := 26) ((r1.1, σ.2), 3) (fun h9 => h9) (rngL rfl) (nar_I _) (by decide) dL_addWalk_26
    exact TX_none
  · refine T_i2l (pc := 10) C hr1.1 dL_addWalk_10 ?_
    refine T_last (pc := 11) C hr1.1 dL_addWalk_11 ?_
    refine T_goto (pc := 12) C 27 dL_addWalk_12 rfl ?_
    refine T_iconst (pc := 27) C dL_addWalk_27 ?_
    exact T_iret (pc := 28) (((r1.1, σ.2).1, (r1.1, σ.2).2.1, r1.2.2, (r1.1, σ.2).2.2.2), 0) (fun h9 => h9) (rngL rfl) (nar_I _) (by decide) dL_addWalk_28
abbrev rm_L_removeWalk : Room := ⟨8, 1, 6, 150⟩
theorem cm_L_removeWalk : cmL yL_removeWalk cL_removeWalk 5 [(0, 10, 13, 21), (0, 10, 17, 27)] 4 := ⟨kl_12, kl_4, ⟨by decide +kernel, by decide +kernel, by decide +kernel⟩, kl_13⟩
def f_L_removeWalk (N : Nat) (σ : SL) (x1 : Int) (x2 : Int) : Option (SL × Int) :=
  (f_X12_removeWalk N σ.1 x1 x2).bind fun r1 => if r1.2.1 = 0 then some (((r1.1, σ.2).1, (r1.1, σ.2).2.1, r1.2.2, (r1.1, σ.2).2.2.2), 0) else (if r1.2.1 = 1 then some ((r1.1, σ.2), 1) else (if r1.2.1 = 4 then some ((r1.1, σ.2), 2) else none))
theorem ct_L_removeWalk {l : Launch} {cy : Nat → ClassId} {adc adm : Nat → Nat} {E : Nat → Nat → Nat} {G : va_G} {Z : vZ} {sa : Nat → Nat} (zk : Zk Z E) (zy : Zy Z E sa) (zs : ZS Z E) (zE : ZE Z) (hst : l.stackTraces = false) (N : Nat) (σ : SL) (x1 : Int) (x2 : Int) (h1 : rng x1) (h2 : rng x2) (hw : wfL σ) (o : SL × Int) (h : f_L_removeWalk N σ x1 x2 = some o) : ClI Z l yL_removeWalk cL_removeWalk 5 [(0, 10, 13, 21), (0, 10, 17, 27)] rm_L_removeWalk cy adc adm E G [.ref (adc 0), vi x1, vi x2, .ref (adm 11)] σ o.1 o.2 := by
  refine clI_of (by decide) (Nat.le_of_ble_eq_true rfl) hw o h (fun X A Q hZ hX htab C => ?_)
  replace hst : X.2.1.stackTraces = false := by rw [hX]; exact hst
  replace C : Cx X (YL cy adc adm E G A 5 Q) cL_removeWalk RL (some .int) rm_L_removeWalk (tyL cy) := C
  replace hZ : Zx Z X (YL cy adc adm E G A 5 Q) := hZ
  show T X (YL cy adc adm E G A 5 Q) (fun w => EndI X (YL cy adc adm E G A 5 Q) cL_removeWalk rm_L_removeWalk .int w) 0 0 0 [(0, .ref (adc 0)), (1, vi x1), (2, vi x2), (3, .ref (adm 11))] [] σ (f_L_removeWalk N σ x1 x2)
  unfold f_L_removeWalk
  refine T_aload_n (pc := 0) C dL_removeWalk_0 rfl 3 rfl ?_
  refine T_iconst (pc := 1) C dL_removeWalk_1 ?_
  refine T_aload_n (pc := 2) C dL_removeWalk_2 rfl 0 rfl ?_
  refine T_iload_n (pc := 3) C dL_removeWalk_3 rfl 1 rfl ?_
  refine T_iload_n (pc := 4) C dL_removeWalk_4 rfl 2 rfl ?_
  refine T_lxi (pc := 5) zk.1 hZ C [vi x1, vi x2] [vi 0, .ref (adm 11)] (fun o h9 hw => ct_X12_removeWalk zk zy hst N σ.1 x1 x2 h1 h2 hw o h9) kl_10 cm_X12_removeWalk (rcc (rfl : kd 0 = 12) (by decide) (fun _ => rfl) rfl) rfl rfl (Nat.le_of_ble_eq_true rfl) (by decide) (a' := 1) (b' := 6) ⟨rfl, rfl⟩ dL_removeWalk_5 (fun r1 => ?_) (fun r1 hr1 => ?_)
  · refine TX_ite (fun e2 => ?_) ?_
    · refine TX_catch zy.2.2.2.2 zE hZ C htab 1 e2 [] [(0, 10, 17, 27)] (0, 10, 13, 21) rfl (List.forall_mem_nil _) (by decide) (by decide) kl_7 (by decide +kernel) (fun q3 => ?_)
      refine T_astore (pc := 13) (L' := [(4, .ref q3), (0, .ref (adc 0)), (1, vi x1), (2, vi x2), (3, .ref (adm 11))]) C dL_removeWalk_13 (Nat.le_of_ble_eq_true rfl) rfl ?_
      refine T_iconst (pc := 15) C dL_removeWalk_15 ?_
      exact T_iret (pc := 16) ((r1.1, σ.2), 1) (fun h9 => h9) (rngL rfl) (nar_I _) (by decide) dL_removeWalk_16
    refine TX_ite (fun e4 => ?_) ?_
    · refine TX_catch zy.2.2.2.2 zE hZ C htab 4 e4 [(0, 10, 13, 21)] [] (0, 10, 17, 27) rfl (List.forall_mem_cons.mpr ⟨⟨by decide, 1, kl_7, by decide⟩, (List.forall_mem_nil _)⟩) (by decide) (by decide) kl_11 (by decide +kernel) (fun q5 => ?_)
      refine T_astore (pc := 17) (L' := [(4, .ref q5), (0, .ref (adc 0)), (1, vi x1), (2, vi x2), (3, .ref (adm 11))]) C dL_removeWalk_17 (Nat.le_of_ble_eq_true rfl) rfl ?_
      refine T_iconst (pc := 19) C dL_removeWalk_19 ?_
      exact T_iret (pc := 20) ((r1.1, σ.2), 2) (fun h9 => h9) (rngL rfl) (nar_I _) (by decide) dL_removeWalk_20
    exact TX_none
  · refine T_i2l (pc := 8) C hr1.1 dL_removeWalk_8 ?_
    refine T_last (pc := 9) C hr1.1 dL_removeWalk_9 ?_
    refine T_goto (pc := 10) C 21 dL_removeWalk_10 rfl ?_
    refine T_iconst (pc := 21) C dL_removeWalk_21 ?_
    exact T_iret (pc := 22) (((r1.1, σ.2).1, (r1.1, σ.2).2.1, r1.2.2, (r1.1, σ.2).2.2.2), 0) (fun h9 => h9) (rngL rfl) (nar_I _) (by decide) dL_removeWalk_22
abbrev rm_L_addLine : Room := ⟨8, 1, 6, 152⟩
theorem cm_L_addLine : cmL yL_addLine cL_addLine 7 [(0, 14, 17, 13), (0, 14, 21, 15)] 6 := ⟨kl_15, kl_4, ⟨by decide +kernel, by decide +kernel, by decide +kernel⟩, kl_16⟩
def f_L_addLine (N : Nat) (σ : SL) (x1 : Int) (x2 : Int) (x3 : Int) (x4 : Int) : Option (SL × Int) :=
  (f_X12_addLine N σ.1 x1 x2 x3 x4).bind fun r1 => if r1.2.1 = 0 then some (((r1.1, σ.2).1, (r1.1, σ.2).2.1, r1.2.2, (r1.1, σ.2).2.2.2), 0) else (if r1.2.1 = 2 then some ((r1.1, σ.2), 1) else (if r1.2.1 = 3 then some ((r1.1, σ.2), 2) else none))
theorem ct_L_addLine {l : Launch} {cy : Nat → ClassId} {adc adm : Nat → Nat} {E : Nat → Nat → Nat} {G : va_G} {Z : vZ} {sa : Nat → Nat} (zk : Zk Z E) (zy : Zy Z E sa) (zs : ZS Z E) (zE : ZE Z) (hst : l.stackTraces = false) (N : Nat) (σ : SL) (x1 : Int) (x2 : Int) (x3 : Int) (x4 : Int) (h1 : rng x1) (h2 : rng x2) (h3 : rng x3) (h4 : rng x4) (hw : wfL σ) (o : SL × Int) (h : f_L_addLine N σ x1 x2 x3 x4 = some o) : ClI Z l yL_addLine cL_addLine 7 [(0, 14, 17, 13), (0, 14, 21, 15)] rm_L_addLine cy adc adm E G [.ref (adc 0), vi x1, vi x2, vi x3, vi x4, .ref (adm 11)] σ o.1 o.2 := by
  refine clI_of (by decide) (Nat.le_of_ble_eq_true rfl) hw o h (fun X A Q hZ hX htab C => ?_)
  replace hst : X.2.1.stackTraces = false := by rw [hX]; exact hst
  replace C : Cx X (YL cy adc adm E G A 7 Q) cL_addLine RL (some .int) rm_L_addLine (tyL cy) := C
  replace hZ : Zx Z X (YL cy adc adm E G A 7 Q) := hZ
  show T X (YL cy adc adm E G A 7 Q) (fun w => EndI X (YL cy adc adm E G A 7 Q) cL_addLine rm_L_addLine .int w) 0 0 0 [(0, .ref (adc 0)), (1, vi x1), (2, vi x2), (3, vi x3), (4, vi x4), (5, .ref (adm 11))] [] σ (f_L_addLine N σ x1 x2 x3 x4)
  unfold f_L_addLine
  refine T_aload (pc := 0) C dL_addLine_0 5 rfl ?_
  refine T_iconst (pc := 2) C dL_addLine_2 ?_
  refine T_aload_n (pc := 3) C dL_addLine_3 rfl 0 rfl ?_
  refine T_iload_n (pc := 4) C dL_addLine_4 rfl 1 rfl ?_
  refine T_iload_n (pc := 5) C dL_addLine_5 rfl 2 rfl ?_
  refine T_iload_n (pc := 6) C dL_addLine_6 rfl 3 rfl ?_
  refine T_iload (pc := 7) C dL_addLine_7 4 rfl ?_
  refine T_lxi (pc := 9) zk.1 hZ C [vi x1, vi x2, vi x3, vi x4] [vi 0, .ref (adm 11)] (fun o h9 hw => ct_X12_addLine zk zy hst N σ.1 x1 x2 x3 x4 h1 h2 h3 h4 hw o h9) kl_14 cm_X12_addLine (rcc (rfl : kd 0 = 12) (by decide) (fun _ => rfl) rfl) rfl rfl (Nat.le_of_ble_eq_true rfl) (by decide) (a' := 1) (b' := 6) ⟨rfl, rfl⟩ dL_addLine_9 (fun r1 => ?_) (fun r1 hr1 => ?_)
  · refine TX_ite (fun e2 => ?_) ?_
    · refine TX_catch zy.2.2.2.2 zE hZ C htab 2 e2 [] [(0, 14, 21, 15)] (0, 14, 17, 13) rfl (List.forall_mem_nil _) (by decide) (by decide) kl_1 (by decide +kernel) (fun q3 => ?_)
      refine T_astore (pc := 17) (L' := [(6, .ref q3), (0, .ref (adc 0)), (1, vi x1), (2, vi x2), (3, vi x3), (4, vi x4), (5, .ref (adm 11))]) C dL_addLine_17 (Nat.le_of_ble_eq_true rfl) rfl ?_
      refine T_iconst (pc := 19) C dL_addLine_19 ?_
      exact T_iret (pc := 20) ((r1.1, σ.2), 1) (fun h9 => h9) (rngL rfl) (nar_I _) (by decide) dL_addLine_20
    refine TX_ite (fun e4 => ?_) ?_
    · refine TX_catch zy.2.2.2.2 zE hZ C htab 3 e4 [(0, 14, 17, 13)] [] (0, 14, 21, 15) rfl (List.forall_mem_cons.mpr ⟨⟨by decide, 2, kl_1, by decide⟩, (List.forall_mem_nil _)⟩) (by decide) (by decide) kl_2 (by decide +kernel) (fun q5 => ?_)
      refine T_astore (pc := 21) (L' := [(6, .ref q5), (0, .ref (adc 0)), (1, vi x1), (2, vi x2), (3, vi x3), (4, vi x4), (5, .ref (adm 11))]) C dL_addLine_21 (Nat.le_of_ble_eq_true rfl) rfl ?_
      refine T_iconst (pc := 23) C dL_addLine_23 ?_
      exact T_iret (pc := 24) ((r1.1, σ.2), 2) (fun h9 => h9) (rngL rfl) (nar_I _) (by decide) dL_addLine_24
    exact TX_none
  · refine T_i2l (pc := 12) C hr1.1 dL_addLine_12 ?_
    refine T_last (pc := 13) C hr1.1 dL_addLine_13 ?_
    refine T_goto (pc := 14) C 25 dL_addLine_14 rfl ?_
    refine T_iconst (pc := 25) C dL_addLine_25 ?_
    exact T_iret (pc := 26) (((r1.1, σ.2).1, (r1.1, σ.2).2.1, r1.2.2, (r1.1, σ.2).2.2.2), 0) (fun h9 => h9) (rngL rfl) (nar_I _) (by decide) dL_addLine_26
abbrev rm_L_extendLine : Room := ⟨8, 1, 6, 150⟩
theorem cm_L_extendLine : cmL yL_extendLine cL_extendLine 5 [(0, 10, 13, 21), (0, 10, 17, 15), (0, 10, 21, 36)] 4 := ⟨kl_19, kl_4, ⟨by decide +kernel, by decide +kernel, by decide +kernel⟩, kl_20⟩
def f_L_extendLine (N : Nat) (σ : SL) (x1 : Int) (x2 : Int) : Option (SL × Int) :=
  (f_X12_extendLine N σ.1 x1 x2).bind fun r1 => if r1.2.1 = 0 then some (((r1.1, σ.2).1, (r1.1, σ.2).2.1, r1.2.2, (r1.1, σ.2).2.2.2), 0) else (if r1.2.1 = 1 then some ((r1.1, σ.2), 1) else (if r1.2.1 = 3 then some ((r1.1, σ.2), 2) else (if r1.2.1 = 5 then some ((r1.1, σ.2), 3) else none)))
theorem ct_L_extendLine {l : Launch} {cy : Nat → ClassId} {adc adm : Nat → Nat} {E : Nat → Nat → Nat} {G : va_G} {Z : vZ} {sa : Nat → Nat} (zk : Zk Z E) (zy : Zy Z E sa) (zs : ZS Z E) (zE : ZE Z) (hst : l.stackTraces = false) (N : Nat) (σ : SL) (x1 : Int) (x2 : Int) (h1 : rng x1) (h2 : rng x2) (hw : wfL σ) (o : SL × Int) (h : f_L_extendLine N σ x1 x2 = some o) : ClI Z l yL_extendLine cL_extendLine 5 [(0, 10, 13, 21), (0, 10, 17, 15), (0, 10, 21, 36)] rm_L_extendLine cy adc adm E G [.ref (adc 0), vi x1, vi x2, .ref (adm 11)] σ o.1 o.2 := by
  refine clI_of (by decide) (Nat.le_of_ble_eq_true rfl) hw o h (fun X A Q hZ hX htab C => ?_)
  replace hst : X.2.1.stackTraces = false := by rw [hX]; exact hst
  replace C : Cx X (YL cy adc adm E G A 5 Q) cL_extendLine RL (some .int) rm_L_extendLine (tyL cy) := C
  replace hZ : Zx Z X (YL cy adc adm E G A 5 Q) := hZ
  show T X (YL cy adc adm E G A 5 Q) (fun w => EndI X (YL cy adc adm E G A 5 Q) cL_extendLine rm_L_extendLine .int w) 0 0 0 [(0, .ref (adc 0)), (1, vi x1), (2, vi x2), (3, .ref (adm 11))] [] σ (f_L_extendLine N σ x1 x2)
  unfold f_L_extendLine
  refine T_aload_n (pc := 0) C dL_extendLine_0 rfl 3 rfl ?_
  refine T_iconst (pc := 1) C dL_extendLine_1 ?_
  refine T_aload_n (pc := 2) C dL_extendLine_2 rfl 0 rfl ?_
  refine T_iload_n (pc := 3) C dL_extendLine_3 rfl 1 rfl ?_
  refine T_iload_n (pc := 4) C dL_extendLine_4 rfl 2 rfl ?_
  refine T_lxi (pc := 5) zk.1 hZ C [vi x1, vi x2] [vi 0, .ref (adm 11)] (fun o h9 hw => ct_X12_extendLine zk zy hst N σ.1 x1 x2 h1 h2 hw o h9) kl_17 cm_X12_extendLine (rcc (rfl : kd 0 = 12) (by decide) (fun _ => rfl) rfl) rfl rfl (Nat.le_of_ble_eq_true rfl) (by decide) (a' := 1) (b' := 6) ⟨rfl, rfl⟩ dL_extendLine_5 (fun r1 => ?_) (fun r1 hr1 => ?_)
  · refine TX_ite (fun e2 => ?_) ?_
    · refine TX_catch zy.2.2.2.2 zE hZ C htab 1 e2 [] [(0, 10, 17, 15), (0, 10, 21, 36)] (0, 10, 13, 21) rfl (List.forall_mem_nil _) (by decide) (by decide) kl_7 (by decide +kernel) (fun q3 => ?_)
      refine T_astore (pc := 13) (L' := [(4, .ref q3), (0, .ref (adc 0)), (1, vi x1), (2, vi x2), (3, .ref (adm 11))]) C dL_extendLine_13 (Nat.le_of_ble_eq_true rfl) rfl ?_
      refine T_iconst (pc := 15) C dL_extendLine_15 ?_
      exact T_iret (pc := 16) ((r1.1, σ.2), 1) (fun h9 => h9) (rngL rfl) (nar_I _) (by decide) dL_extendLine_16
    refine TX_ite (fun e4 => ?_) ?_
    · refine TX_catch zy.2.2.2.2 zE hZ C htab 3 e4 [(0, 10, 13, 21)] [(0, 10, 21, 36)] (0, 10, 17, 15) rfl (List.forall_mem_cons.mpr ⟨⟨by decide, 1, kl_7, by decide⟩, (List.forall_mem_nil _)⟩) (by decide) (by decide) kl_2 (by decide +kernel) (fun q5 => ?_)
      refine T_astore (pc := 17) (L' := [(4, .ref q5), (0, .ref (adc 0)), (1, vi x1), (2, vi x2), (3, .ref (adm 11))]) C dL_extendLine_17 (Nat.le_of_ble_eq_true rfl) rfl ?_
      refine T_iconst (pc := 19) C dL_extendLine_19 ?_
      exact T_iret (pc := 20) ((r1.1, σ.2), 2) (fun h9 => h9) (rngL rfl) (nar_I _) (by decide) dL_extendLine_20
    refine TX_ite (fun e6 => ?_) ?_
    · refine TX_catch zy.2.2.2.2 zE hZ C htab 5 e6 [(0, 10, 13, 21), (0, 10, 17, 15)] [] (0, 10, 21, 36) rfl (List.forall_mem_cons.mpr ⟨⟨by decide, 1, kl_7, by decide⟩, (List.forall_mem_cons.mpr ⟨⟨by decide, 3, kl_2, by decide⟩, (List.forall_mem_nil _)⟩)⟩) (by decide) (by decide) kl_18 (by decide +kernel) (fun q7 => ?_)
      refine T_astore (pc := 21) (L' := [(4, .ref q7), (0, .ref (adc 0)), (1, vi x1), (2, vi x2), (3, .ref (adm 11))]) C dL_extendLine_21 (Nat.le_of_ble_eq_true rfl) rfl ?_
      refine T_iconst (pc := 23) C dL_extendLine_23 ?_
      exact T_iret (pc := 24) ((r1.1, σ.2), 3) (fun h9 => h9) (rngL rfl) (nar_I _) (by decide) dL_extendLine_24
    exact TX_none
  · refine T_i2l (pc := 8) C hr1.1 dL_extendLine_8 ?_
    refine T_last (pc := 9) C hr1.1 dL_extendLine_9 ?_
    refine T_goto (pc := 10) C 25 dL_extendLine_10 rfl ?_
    refine T_iconst (pc := 25) C dL_extendLine_25 ?_
    exact T_iret (pc := 26) (((r1.1, σ.2).1, (r1.1, σ.2).2.1, r1.2.2, (r1.1, σ.2).2.2.2), 0) (fun h9 => h9) (rngL rfl) (nar_I _) (by decide) dL_extendLine_26
abbrev rm_L_shortenLine : Room := ⟨8, 1, 6, 149⟩
theorem cm_L_shortenLine : cmL yL_shortenLine cL_shortenLine 4 [(0, 9, 12, 21), (0, 9, 15, 27), (0, 9, 18, 15)] 3 := ⟨kl_22, kl_4, ⟨by decide +kernel, by decide +kernel, by decide +kernel⟩, kl_23⟩
def f_L_shortenLine (N : Nat) (σ : SL) (x1 : Int) : Option (SL × Int) :=
  (f_X12_shortenLine N σ.1 x1).bind fun r1 => if r1.2.1 = 0 then some (((r1.1, σ.2).1, (r1.1, σ.2).2.1, r1.2.2, (r1.1, σ.2).2.2.2), 0) else (if r1.2.1 = 1 then some ((r1.1, σ.2), 1) else (if r1.2.1 = 4 then some ((r1.1, σ.2), 2) else (if r1.2.1 = 3 then some ((r1.1, σ.2), 3) else none)))
theorem ct_L_shortenLine {l : Launch} {cy : Nat → ClassId} {adc adm : Nat → Nat} {E : Nat → Nat → Nat} {G : va_G} {Z : vZ} {sa : Nat → Nat} (zk : Zk Z E) (zy : Zy Z E sa) (zs : ZS Z E) (zE : ZE Z) (hst : l.stackTraces = false) (N : Nat) (σ : SL) (x1 : Int) (h1 : rng x1) (hw : wfL σ) (o : SL × Int) (h : f_L_shortenLine N σ x1 = some o) : ClI Z l yL_shortenLine cL_shortenLine 4 [(0, 9, 12, 21), (0, 9, 15, 27), (0, 9, 18, 15)] rm_L_shortenLine cy adc adm E G [.ref (adc 0), vi x1, .ref (adm 11)] σ o.1 o.2 := by
  refine clI_of (by decide) (Nat.le_of_ble_eq_true rfl) hw o h (fun X A Q hZ hX htab C => ?_)
  replace hst : X.2.1.stackTraces = false := by rw [hX]; exact hst
  replace C : Cx X (YL cy adc adm E G A 4 Q) cL_shortenLine RL (some .int) rm_L_shortenLine (tyL cy) := C
  replace hZ : Zx Z X (YL cy adc adm E G A 4 Q) := hZ
  show T X (YL cy adc adm E G A 4 Q) (fun w => EndI X (YL cy adc adm E G A 4 Q) cL_shortenLine rm_L_shortenLine .int w) 0 0 0 [(0, .ref (adc 0)), (1, vi x1), (2, .ref (adm 11))] [] σ (f_L_shortenLine N σ x1)
  unfold f_L_shortenLine
  refine T_aload_n (pc := 0) C dL_shortenLine_0 rfl 2 rfl ?_
  refine T_iconst (pc := 1) C dL_shortenLine_1 ?_
  refine T_aload_n (pc := 2) C dL_shortenLine_2 rfl 0 rfl ?_
  refine T_iload_n (pc := 3) C dL_shortenLine_3 rfl 1 rfl ?_
  refine T_lxi (pc := 4) zk.1 hZ C [vi x1] [vi 0, .ref (adm 11)] (fun o h9 hw => ct_X12_shortenLine zk zy hst N σ.1 x1 h1 hw o h9) kl_21 cm_X12_shortenLine (rcc (rfl : kd 0 = 12) (by decide) (fun _ => rfl) rfl) rfl rfl (Nat.le_of_ble_eq_true rfl) (by decide) (a' := 1) (b' := 6) ⟨rfl, rfl⟩ dL_shortenLine_4 (fun r1 => ?_) (fun r1 hr1 => ?_)
  · refine TX_ite (fun e2 => ?_) ?_
    · refine TX_catch zy.2.2.2.2 zE hZ C htab 1 e2 [] [(0, 9, 15, 27), (0, 9, 18, 15)] (0, 9, 12, 21) rfl (List.forall_mem_nil _) (by decide) (by decide) kl_7 (by decide +kernel) (fun q3 => ?_)
      refine T_astore_n (pc := 12) (L' := [(3, .ref q3), (0, .ref (adc 0)), (1, vi x1), (2, .ref (adm 11))]) C dL_shortenLine_12 rfl (Nat.le_of_ble_eq_true rfl) rfl ?_
      refine T_iconst (pc := 13) C dL_shortenLine_13 ?_
      exact T_iret (pc := 14) ((r1.1, σ.2), 1) (fun h9 => h9) (rngL rfl) (nar_I _) (by decide) dL_shortenLine_14
    refine TX_ite (fun e4 => ?_) ?_
    · refine TX_catch zy.2.2.2.2 zE hZ C htab 4 e4 [(0, 9, 12, 21)] [(0, 9, 18, 15)] (0, 9, 15, 27) rfl (List.forall_mem_cons.mpr ⟨⟨by decide, 1, kl_7, by decide⟩, (List.forall_mem_nil _)⟩) (by decide) (by decide) kl_11 (by decide +kernel) (fun q5 => ?_)
      refine T_astore_n (pc := 15) (L' := [(3, .ref q5), (0, .ref (adc 0)), (1, vi x1), (2, .ref (adm 11))]) C dL_shortenLine_15 rfl (Nat.le_of_ble_eq_true rfl) rfl ?_
      refine T_iconst (pc := 16) C dL_shortenLine_16 ?_
      exact T_iret (pc := 17) ((r1.1, σ.2), 2) (fun h9 => h9) (rngL rfl) (nar_I _) (by decide) dL_shortenLine_17
    refine TX_ite (fun e6 => ?_) ?_
    · refine TX_catch zy.2.2.2.2 zE hZ C htab 3 e6 [(0, 9, 12, 21), (0, 9, 15, 27)] [] (0, 9, 18, 15) rfl (List.forall_mem_cons.mpr ⟨⟨by decide, 1, kl_7, by decide⟩, (List.forall_mem_cons.mpr ⟨⟨by decide, 4, kl_11, by decide⟩, (List.forall_mem_nil _)⟩)⟩) (by decide) (by decide) kl_2 (by decide +kernel) (fun q7 => ?_)
      refine T_astore_n (pc := 18) (L' := [(3, .ref q7), (0, .ref (adc 0)), (1, vi x1), (2, .ref (adm 11))]) C dL_shortenLine_18 rfl (Nat.le_of_ble_eq_true rfl) rfl ?_
      refine T_iconst (pc := 19) C dL_shortenLine_19 ?_
      exact T_iret (pc := 20) ((r1.1, σ.2), 3) (fun h9 => h9) (rngL rfl) (nar_I _) (by decide) dL_shortenLine_20
    exact TX_none
  · refine T_i2l (pc := 7) C hr1.1 dL_shortenLine_7 ?_
    refine T_last (pc := 8) C hr1.1 dL_shortenLine_8 ?_
    refine T_goto (pc := 9) C 21 dL_shortenLine_9 rfl ?_
    refine T_iconst (pc := 21) C dL_shortenLine_21 ?_
    exact T_iret (pc := 22) (((r1.1, σ.2).1, (r1.1, σ.2).2.1, r1.2.2, (r1.1, σ.2).2.2.2), 0) (fun h9 => h9) (rngL rfl) (nar_I _) (by decide) dL_shortenLine_22
abbrev rm_L_setRainDelay : Room := ⟨8, 1, 6, 151⟩
theorem cm_L_setRainDelay : cmL yL_setRainDelay cL_setRainDelay 5 [(0, 10, 13, 21), (0, 10, 17, 13)] 4 := ⟨kl_25, kl_4, ⟨by decide +kernel, by decide +kernel, by decide +kernel⟩, kl_26⟩
def f_L_setRainDelay (N : Nat) (σ : SL) (x1 : Int) (x2 : Int) : Option (SL × Int) :=
  (f_X12_setRainDelay N σ.1 x1 x2).bind fun r1 => if r1.2.1 = 0 then some (((r1.1, σ.2).1, (r1.1, σ.2).2.1, r1.2.2, (r1.1, σ.2).2.2.2), 0) else (if r1.2.1 = 1 then some ((r1.1, σ.2), 1) else (if r1.2.1 = 2 then some ((r1.1, σ.2), 2) else none))
theorem ct_L_setRainDelay {l : Launch} {cy : Nat → ClassId} {adc adm : Nat → Nat} {E : Nat → Nat → Nat} {G : va_G} {Z : vZ} {sa : Nat → Nat} (zk : Zk Z E) (zy : Zy Z E sa) (zs : ZS Z E) (zE : ZE Z) (hst : l.stackTraces = false) (N : Nat) (σ : SL) (x1 : Int) (x2 : Int) (h1 : rng x1) (h2 : rng x2) (hw : wfL σ) (o : SL × Int) (h : f_L_setRainDelay N σ x1 x2 = some o) : ClI Z l yL_setRainDelay cL_setRainDelay 5 [(0, 10, 13, 21), (0, 10, 17, 13)] rm_L_setRainDelay cy adc adm E G [.ref (adc 0), vi x1, vi x2, .ref (adm 11)] σ o.1 o.2 := by
  refine clI_of (by decide) (Nat.le_of_ble_eq_true rfl) hw o h (fun X A Q hZ hX htab C => ?_)
  replace hst : X.2.1.stackTraces = false := by rw [hX]; exact hst
  replace C : Cx X (YL cy adc adm E G A 5 Q) cL_setRainDelay RL (some .int) rm_L_setRainDelay (tyL cy) := C
  replace hZ : Zx Z X (YL cy adc adm E G A 5 Q) := hZ
  show T X (YL cy adc adm E G A 5 Q) (fun w => EndI X (YL cy adc adm E G A 5 Q) cL_setRainDelay rm_L_setRainDelay .int w) 0 0 0 [(0, .ref (adc 0)), (1, vi x1), (2, vi x2), (3, .ref (adm 11))] [] σ (f_L_setRainDelay N σ x1 x2)
  unfold f_L_setRainDelay
  refine T_aload_n (pc := 0) C dL_setRainDelay_0 rfl 3 rfl ?_
  refine T_iconst (pc := 1) C dL_setRainDelay_1 ?_
  refine T_aload_n (pc := 2) C dL_setRainDelay_2 rfl 0 rfl ?_
  refine T_iload_n (pc := 3) C dL_setRainDelay_3 rfl 1 rfl ?_
  refine T_iload_n (pc := 4) C dL_setRainDelay_4 rfl 2 rfl ?_
  refine T_lxi (pc := 5) zk.1 hZ C [vi x1, vi x2] [vi 0, .ref (adm 11)] (fun o h9 hw => ct_X12_setRainDelay zk zy hst N σ.1 x1 x2 h1 h2 hw o h9) kl_24 cm_X12_setRainDelay (rcc (rfl : kd 0 = 12) (by decide) (fun _ => rfl) rfl) rfl rfl (Nat.le_of_ble_eq_true rfl) (by decide) (a' := 1) (b' := 6) ⟨rfl, rfl⟩ dL_setRainDelay_5 (fun r1 => ?_) (fun r1 hr1 => ?_)
  · refine TX_ite (fun e2 => ?_) ?_
    · refine TX_catch zy.2.2.2.2 zE hZ C htab 1 e2 [] [(0, 10, 17, 13)] (0, 10, 13, 21) rfl (List.forall_mem_nil _) (by decide) (by decide) kl_7 (by decide +kernel) (fun q3 => ?_)
      refine T_astore (pc := 13) (L' := [(4, .ref q3), (0, .ref (adc 0)), (1, vi x1), (2, vi x2), (3, .ref (adm 11))]) C dL_setRainDelay_13 (Nat.le_of_ble_eq_true rfl) rfl ?_
      refine T_iconst (pc := 15) C dL_setRainDelay_15 ?_
      exact T_iret (pc := 16) ((r1.1, σ.2), 1) (fun h9 => h9) (rngL rfl) (nar_I _) (by decide) dL_setRainDelay_16
    refine TX_ite (fun e4 => ?_) ?_
    · refine TX_catch zy.2.2.2.2 zE hZ C htab 2 e4 [(0, 10, 13, 21)] [] (0, 10, 17, 13) rfl (List.forall_mem_cons.mpr ⟨⟨by decide, 1, kl_7, by decide⟩, (List.forall_mem_nil _)⟩) (by decide) (by decide) kl_1 (by decide +kernel) (fun q5 => ?_)
      refine T_astore (pc := 17) (L' := [(4, .ref q5), (0, .ref (adc 0)), (1, vi x1), (2, vi x2), (3, .ref (adm 11))]) C dL_setRainDelay_17 (Nat.le_of_ble_eq_true rfl) rfl ?_
      refine T_iconst (pc := 19) C dL_setRainDelay_19 ?_
      exact T_iret (pc := 20) ((r1.1, σ.2), 2) (fun h9 => h9) (rngL rfl) (nar_I _) (by decide) dL_setRainDelay_20
    exact TX_none
  · refine T_i2l (pc := 8) C hr1.1 dL_setRainDelay_8 ?_
    refine T_last (pc := 9) C hr1.1 dL_setRainDelay_9 ?_
    refine T_goto (pc := 10) C 21 dL_setRainDelay_10 rfl ?_
    refine T_iconst (pc := 21) C dL_setRainDelay_21 ?_
    exact T_iret (pc := 22) (((r1.1, σ.2).1, (r1.1, σ.2).2.1, r1.2.2, (r1.1, σ.2).2.2.2), 0) (fun h9 => h9) (rngL rfl) (nar_I _) (by decide) dL_setRainDelay_22
abbrev rm_L_setClosed : Room := ⟨8, 1, 6, 151⟩
theorem cm_L_setClosed : cmL yL_setClosed cL_setClosed 5 [(0, 17, 20, 21)] 4 := ⟨kl_28, kl_4, ⟨by decide +kernel, by decide +kernel, by decide +kernel⟩, kl_29⟩
def f_L_setClosed (N : Nat) (σ : SL) (x1 : Int) (x2 : Int) : Option (SL × Int) :=
  (f_X12_setClosed N σ.1 x1 x2).bind fun r1 => if r1.2.1 = 0 then (if r1.2.2 = 0 then some (((r1.1, σ.2).1, (r1.1, σ.2).2.1, 0, (r1.1, σ.2).2.2.2), 0) else some (((r1.1, σ.2).1, (r1.1, σ.2).2.1, 1, (r1.1, σ.2).2.2.2), 0)) else (if r1.2.1 = 1 then some ((r1.1, σ.2), 1) else none)
theorem ct_L_setClosed {l : Launch} {cy : Nat → ClassId} {adc adm : Nat → Nat} {E : Nat → Nat → Nat} {G : va_G} {Z : vZ} {sa : Nat → Nat} (zk : Zk Z E) (zy : Zy Z E sa) (zs : ZS Z E) (zE : ZE Z) (hst : l.stackTraces = false) (N : Nat) (σ : SL) (x1 : Int) (x2 : Int) (h1 : rng x1) (h2 : bit x2) (hw : wfL σ) (o : SL × Int) (h : f_L_setClosed N σ x1 x2 = some o) : ClI Z l yL_setClosed cL_setClosed 5 [(0, 17, 20, 21)] rm_L_setClosed cy adc adm E G [.ref (adc 0), vi x1, vi x2, .ref (adm 11)] σ o.1 o.2 := by
  refine clI_of (by decide) (Nat.le_of_ble_eq_true rfl) hw o h (fun X A Q hZ hX htab C => ?_)
  replace hst : X.2.1.stackTraces = false := by rw [hX]; exact hst
  replace C : Cx X (YL cy adc adm E G A 5 Q) cL_setClosed RL (some .int) rm_L_setClosed (tyL cy) := C
  replace hZ : Zx Z X (YL cy adc adm E G A 5 Q) := hZ
  show T X (YL cy adc adm E G A 5 Q) (fun w => EndI X (YL cy adc adm E G A 5 Q) cL_setClosed rm_L_setClosed .int w) 0 0 0 [(0, .ref (adc 0)), (1, vi x1), (2, vi x2), (3, .ref (adm 11))] [] σ (f_L_setClosed N σ x1 x2)
  unfold f_L_setClosed
  refine T_aload_n (pc := 0) C dL_setClosed_0 rfl 3 rfl ?_
  refine T_iconst (pc := 1) C dL_setClosed_1 ?_
  refine T_aload_n (pc := 2) C dL_setClosed_2 rfl 0 rfl ?_
  refine T_iload_n (pc := 3) C dL_setClosed_3 rfl 1 rfl ?_
  refine T_iload_n (pc := 4) C dL_setClosed_4 rfl 2 rfl ?_
  refine T_lxi (pc := 5) zk.1 hZ C [vi x1, vi x2] [vi 0, .ref (adm 11)] (fun o h9 hw => ct_X12_setClosed zk zy hst N σ.1 x1 x2 h1 h2 hw o h9) kl_27 cm_X12_setClosed (rcc (rfl : kd 0 = 12) (by decide) (fun _ => rfl) rfl) rfl rfl (Nat.le_of_ble_eq_true rfl) (by decide) (a' := 1) (b' := 6) ⟨rfl, rfl⟩ dL_setClosed_5 (fun r1 => ?_) (fun r1 hr1 => ?_)
  · refine TX_ite (fun e2 => ?_) ?_
    · refine TX_catch zy.2.2.2.2 zE hZ C htab 1 e2 [] [] (0, 17, 20, 21) rfl (List.forall_mem_nil _) (by decide) (by decide) kl_7 (by decide +kernel) (fun q3 => ?_)
      refine T_astore (pc := 20) (L' := [(4, .ref q3), (0, .ref (adc 0)), (1, vi x1), (2, vi x2), (3, .ref (adm 11))]) C dL_setClosed_20 (Nat.le_of_ble_eq_true rfl) rfl ?_
      refine T_iconst (pc := 22) C dL_setClosed_22 ?_
      exact T_iret (pc := 23) ((r1.1, σ.2), 1) (fun h9 => h9) (rngL rfl) (nar_I _) (by decide) dL_setClosed_23
    exact TX_none
  · refine T_if_eq (pc := 8) C 15 dL_setClosed_8 rfl hr1.1 (fun c4 => ?_) (fun c4 => ?_)
    · refine T_lconst (pc := 15) C 0 rfl dL_setClosed_15 ?_
      refine T_last (pc := 16) C (rngL rfl) dL_setClosed_16 ?_
      refine T_goto (pc := 17) C 24 dL_setClosed_17 rfl ?_
      refine T_iconst (pc := 24) C dL_setClosed_24 ?_
      exact T_iret (pc := 25) (((r1.1, σ.2).1, (r1.1, σ.2).2.1, 0, (r1.1, σ.2).2.2.2), 0) (fun h9 => h9) (rngL rfl) (nar_I _) (by decide) dL_setClosed_25
    · refine T_lconst (pc := 11) C 1 rfl dL_setClosed_11 ?_
      refine T_goto (pc := 12) C 16 dL_setClosed_12 rfl ?_
      refine T_last (pc := 16) C (rngL rfl) dL_setClosed_16 ?_
      refine T_goto (pc := 17) C 24 dL_setClosed_17 rfl ?_
      refine T_iconst (pc := 24) C dL_setClosed_24 ?_
      exact T_iret (pc := 25) (((r1.1, σ.2).1, (r1.1, σ.2).2.1, 1, (r1.1, σ.2).2.2.2), 0) (fun h9 => h9) (rngL rfl) (nar_I _) (by decide) dL_setClosed_25
abbrev rm_L_setSuspended : Room := ⟨8, 1, 6, 151⟩
theorem cm_L_setSuspended : cmL yL_setSuspended cL_setSuspended 5 [(0, 17, 20, 21)] 4 := ⟨kl_31, kl_4, ⟨by decide +kernel, by decide +kernel, by decide +kernel⟩, kl_32⟩
def f_L_setSuspended (N : Nat) (σ : SL) (x1 : Int) (x2 : Int) : Option (SL × Int) :=
  (f_X12_setSuspended N σ.1 x1 x2).bind fun r1 => if r1.2.1 = 0 then (if r1.2.2 = 0 then some (((r1.1, σ.2).1, (r1.1, σ.2).2.1, 0, (r1.1, σ.2).2.2.2), 0) else some (((r1.1, σ.2).1, (r1.1, σ.2).2.1, 1, (r1.1, σ.2).2.2.2), 0)) else (if r1.2.1 = 1 then some ((r1.1, σ.2), 1) else none)
theorem ct_L_setSuspended {l : Launch} {cy : Nat → ClassId} {adc adm : Nat → Nat} {E : Nat → Nat → Nat} {G : va_G} {Z : vZ} {sa : Nat → Nat} (zk : Zk Z E) (zy : Zy Z E sa) (zs : ZS Z E) (zE : ZE Z) (hst : l.stackTraces = false) (N : Nat) (σ : SL) (x1 : Int) (x2 : Int) (h1 : rng x1) (h2 : bit x2) (hw : wfL σ) (o : SL × Int) (h : f_L_setSuspended N σ x1 x2 = some o) : ClI Z l yL_setSuspended cL_setSuspended 5 [(0, 17, 20, 21)] rm_L_setSuspended cy adc adm E G [.ref (adc 0), vi x1, vi x2, .ref (adm 11)] σ o.1 o.2 := by
  refine clI_of (by decide) (Nat.le_of_ble_eq_true rfl) hw o h (fun X A Q hZ hX htab C => ?_)
  replace hst : X.2.1.stackTraces = false := by rw [hX]; exact hst
  replace C : Cx X (YL cy adc adm E G A 5 Q) cL_setSuspended RL (some .int) rm_L_setSuspended (tyL cy) := C
  replace hZ : Zx Z X (YL cy adc adm E G A 5 Q) := hZ
  show T X (YL cy adc adm E G A 5 Q) (fun w => EndI X (YL cy adc adm E G A 5 Q) cL_setSuspended rm_L_setSuspended .int w) 0 0 0 [(0, .ref (adc 0)), (1, vi x1), (2, vi x2), (3, .ref (adm 11))] [] σ (f_L_setSuspended N σ x1 x2)
  unfold f_L_setSuspended
  refine T_aload_n (pc := 0) C dL_setSuspended_0 rfl 3 rfl ?_
  refine T_iconst (pc := 1) C dL_setSuspended_1 ?_
  refine T_aload_n (pc := 2) C dL_setSuspended_2 rfl 0 rfl ?_
  refine T_iload_n (pc := 3) C dL_setSuspended_3 rfl 1 rfl ?_
  refine T_iload_n (pc := 4) C dL_setSuspended_4 rfl 2 rfl ?_
  refine T_lxi (pc := 5) zk.1 hZ C [vi x1, vi x2] [vi 0, .ref (adm 11)] (fun o h9 hw => ct_X12_setSuspended zk zy hst N σ.1 x1 x2 h1 h2 hw o h9) kl_30 cm_X12_setSuspended (rcc (rfl : kd 0 = 12) (by decide) (fun _ => rfl) rfl) rfl rfl (Nat.le_of_ble_eq_true rfl) (by decide) (a' := 1) (b' := 6) ⟨rfl, rfl⟩ dL_setSuspended_5 (fun r1 => ?_) (fun r1 hr1 => ?_)
  · refine TX_ite (fun e2 => ?_) ?_
    · refine TX_catch zy.2.2.2.2 zE hZ C htab 1 e2 [] [] (0, 17, 20, 21) rfl (List.forall_mem_nil _) (by decide) (by decide) kl_7 (by decide +kernel) (fun q3 => ?_)
      refine T_astore (pc := 20) (L' := [(4, .ref q3), (0, .ref (adc 0)), (1, vi x1), (2, vi x2), (3, .ref (adm 11))]) C dL_setSuspended_20 (Nat.le_of_ble_eq_true rfl) rfl ?_
      refine T_iconst (pc := 22) C dL_setSuspended_22 ?_
      exact T_iret (pc := 23) ((r1.1, σ.2), 1) (fun h9 => h9) (rngL rfl) (nar_I _) (by decide) dL_setSuspended_23
    exact TX_none
  · refine T_if_eq (pc := 8) C 15 dL_setSuspended_8 rfl hr1.1 (fun c4 => ?_) (fun c4 => ?_)
    · refine T_lconst (pc := 15) C 0 rfl dL_setSuspended_15 ?_
      refine T_last (pc := 16) C (rngL rfl) dL_setSuspended_16 ?_
      refine T_goto (pc := 17) C 24 dL_setSuspended_17 rfl ?_
      refine T_iconst (pc := 24) C dL_setSuspended_24 ?_
      exact T_iret (pc := 25) (((r1.1, σ.2).1, (r1.1, σ.2).2.1, 0, (r1.1, σ.2).2.2.2), 0) (fun h9 => h9) (rngL rfl) (nar_I _) (by decide) dL_setSuspended_25
    · refine T_lconst (pc := 11) C 1 rfl dL_setSuspended_11 ?_
      refine T_goto (pc := 12) C 16 dL_setSuspended_12 rfl ?_
      refine T_last (pc := 16) C (rngL rfl) dL_setSuspended_16 ?_
      refine T_goto (pc := 17) C 24 dL_setSuspended_17 rfl ?_
      refine T_iconst (pc := 24) C dL_setSuspended_24 ?_
      exact T_iret (pc := 25) (((r1.1, σ.2).1, (r1.1, σ.2).2.1, 1, (r1.1, σ.2).2.2.2), 0) (fun h9 => h9) (rngL rfl) (nar_I _) (by decide) dL_setSuspended_25
abbrev rm_L_sellTicket : Room := ⟨8, 1, 6, 152⟩
theorem cm_L_sellTicket : cmL yL_sellTicket cL_sellTicket 7 [(0, 14, 17, 21), (0, 14, 21, 13), (0, 14, 25, 15), (0, 14, 29, 36)] 6 := ⟨kl_34, kl_4, ⟨by decide +kernel, by decide +kernel, by decide +kernel⟩, kl_35⟩
def f_L_sellTicket (N : Nat) (σ : SL) (x1 : Int) (x2 : Int) (x3 : Int) (x4 : Int) : Option (SL × Int) :=
  (f_X12_sellTicket N σ.1 x1 x2 x3 x4).bind fun r1 => if r1.2.1 = 0 then some (((r1.1, σ.2).1, (r1.1, σ.2).2.1, r1.2.2, (r1.1, σ.2).2.2.2), 0) else (if r1.2.1 = 1 then some ((r1.1, σ.2), 1) else (if r1.2.1 = 2 then some ((r1.1, σ.2), 2) else (if r1.2.1 = 3 then some ((r1.1, σ.2), 3) else (if r1.2.1 = 5 then some ((r1.1, σ.2), 4) else none))))
theorem ct_L_sellTicket {l : Launch} {cy : Nat → ClassId} {adc adm : Nat → Nat} {E : Nat → Nat → Nat} {G : va_G} {Z : vZ} {sa : Nat → Nat} (zk : Zk Z E) (zy : Zy Z E sa) (zs : ZS Z E) (zE : ZE Z) (hst : l.stackTraces = false) (N : Nat) (σ : SL) (x1 : Int) (x2 : Int) (x3 : Int) (x4 : Int) (h1 : rng x1) (h2 : rng x2) (h3 : rng x3) (h4 : rng x4) (hw : wfL σ) (o : SL × Int) (h : f_L_sellTicket N σ x1 x2 x3 x4 = some o) : ClI Z l yL_sellTicket cL_sellTicket 7 [(0, 14, 17, 21), (0, 14, 21, 13), (0, 14, 25, 15), (0, 14, 29, 36)] rm_L_sellTicket cy adc adm E G [.ref (adc 0), vi x1, vi x2, vi x3, vi x4, .ref (adm 11)] σ o.1 o.2 := by
  refine clI_of (by decide) (Nat.le_of_ble_eq_true rfl) hw o h (fun X A Q hZ hX htab C => ?_)
  replace hst : X.2.1.stackTraces = false := by rw [hX]; exact hst
  replace C : Cx X (YL cy adc adm E G A 7 Q) cL_sellTicket RL (some .int) rm_L_sellTicket (tyL cy) := C
  replace hZ : Zx Z X (YL cy adc adm E G A 7 Q) := hZ
  show T X (YL cy adc adm E G A 7 Q) (fun w => EndI X (YL cy adc adm E G A 7 Q) cL_sellTicket rm_L_sellTicket .int w) 0 0 0 [(0, .ref (adc 0)), (1, vi x1), (2, vi x2), (3, vi x3), (4, vi x4), (5, .ref (adm 11))] [] σ (f_L_sellTicket N σ x1 x2 x3 x4)
  unfold f_L_sellTicket
  refine T_aload (pc := 0) C dL_sellTicket_0 5 rfl ?_
  refine T_iconst (pc := 2) C dL_sellTicket_2 ?_
  refine T_aload_n (pc := 3) C dL_sellTicket_3 rfl 0 rfl ?_
  refine T_iload_n (pc := 4) C dL_sellTicket_4 rfl 1 rfl ?_
  refine T_iload_n (pc := 5) C dL_sellTicket_5 rfl 2 rfl ?_
  refine T_iload_n (pc := 6) C dL_sellTicket_6 rfl 3 rfl ?_
  refine T_iload (pc := 7) C dL_sellTicket_7 4 rfl ?_
  refine T_lxi (pc := 9) zk.1 hZ C [vi x1, vi x2, vi x3, vi x4] [vi 0, .ref (adm 11)] (fun o h9 hw => ct_X12_sellTicket zk zy hst N σ.1 x1 x2 x3 x4 h1 h2 h3 h4 hw o h9) kl_33 cm_X12_sellTicket (rcc (rfl : kd 0 = 12) (by decide) (fun _ => rfl) rfl) rfl rfl (Nat.le_of_ble_eq_true rfl) (by decide) (a' := 1) (b' := 6) ⟨rfl, rfl⟩ dL_sellTicket_9 (fun r1 => ?_) (fun r1 hr1 => ?_)
  · refine TX_ite (fun e2 => ?_) ?_
    · refine TX_catch zy.2.2.2.2 zE hZ C htab 1 e2 [] [(0, 14, 21, 13), (0, 14, 25, 15), (0, 14, 29, 36)] (0, 14, 17, 21) rfl (List.forall_mem_nil _) (by decide) (by decide) kl_7 (by decide +kernel) (fun q3 => ?_)
      refine T_astore (pc := 17) (L' := [(6, .ref q3), (0, .ref (adc 0)), (1, vi x1), (2, vi x2), (3, vi x3), (4, vi x4), (5, .ref (adm 11))]) C dL_sellTicket_17 (Nat.le_of_ble_eq_true rfl) rfl ?_
      refine T_iconst (pc := 19) C dL_sellTicket_19 ?_
      exact T_iret (pc := 20) ((r1.1, σ.2), 1) (fun h9 => h9) (rngL rfl) (nar_I _) (by decide) dL_sellTicket_20
    refine TX_ite (fun e4 => ?_) ?_
    · refine TX_catch zy.2.2.2.2 zE hZ C htab 2 e4 [(0, 14, 17, 21)] [(0, 14, 25, 15), (0, 14, 29, 36)] (0, 14, 21, 13) rfl (List.forall_mem_cons.mpr ⟨⟨by decide, 1, kl_7, by decide⟩, (List.forall_mem_nil _)⟩) (by decide) (by decide) kl_1 (by decide +kernel) (fun q5 => ?_)
      refine T_astore (pc := 21) (L' := [(6, .ref q5), (0, .ref (adc 0)), (1, vi x1), (2, vi x2), (3, vi x3), (4, vi x4), (5, .ref (adm 11))]) C dL_sellTicket_21 (Nat.le_of_ble_eq_true rfl) rfl ?_
      refine T_iconst (pc := 23) C dL_sellTicket_23 ?_
      exact T_iret (pc := 24) ((r1.1, σ.2), 2) (fun h9 => h9) (rngL rfl) (nar_I _) (by decide) dL_sellTicket_24
    refine TX_ite (fun e6 => ?_) ?_
    · refine TX_catch zy.2.2.2.2 zE hZ C htab 3 e6 [(0, 14, 17, 21), (0, 14, 21, 13)] [(0, 14, 29, 36)] (0, 14, 25, 15) rfl (List.forall_mem_cons.mpr ⟨⟨by decide, 1, kl_7, by decide⟩, (List.forall_mem_cons.mpr ⟨⟨by decide, 2, kl_1, by decide⟩, (List.forall_mem_nil _)⟩)⟩) (by decide) (by decide) kl_2 (by decide +kernel) (fun q7 => ?_)
      refine T_astore (pc := 25) (L' := [(6, .ref q7), (0, .ref (adc 0)), (1, vi x1), (2, vi x2), (3, vi x3), (4, vi x4), (5, .ref (adm 11))]) C dL_sellTicket_25 (Nat.le_of_ble_eq_true rfl) rfl ?_
      refine T_iconst (pc := 27) C dL_sellTicket_27 ?_
      exact T_iret (pc := 28) ((r1.1, σ.2), 3) (fun h9 => h9) (rngL rfl) (nar_I _) (by decide) dL_sellTicket_28
    refine TX_ite (fun e8 => ?_) ?_
    · refine TX_catch zy.2.2.2.2 zE hZ C htab 5 e8 [(0, 14, 17, 21), (0, 14, 21, 13), (0, 14, 25, 15)] [] (0, 14, 29, 36) rfl (List.forall_mem_cons.mpr ⟨⟨by decide, 1, kl_7, by decide⟩, (List.forall_mem_cons.mpr ⟨⟨by decide, 2, kl_1, by decide⟩, (List.forall_mem_cons.mpr ⟨⟨by decide, 3, kl_2, by decide⟩, (List.forall_mem_nil _)⟩)⟩)⟩) (by decide) (by decide) kl_18 (by decide +kernel) (fun q9 => ?_)
      refine T_astore (pc := 29) (L' := [(6, .ref q9), (0, .ref (adc 0)), (1, vi x1), (2, vi x2), (3, vi x3), (4, vi x4), (5, .ref (adm 11))]) C dL_sellTicket_29 (Nat.le_of_ble_eq_true rfl) rfl ?_
      refine T_iconst (pc := 31) C dL_sellTicket_31 ?_
      exact T_iret (pc := 32) ((r1.1, σ.2), 4) (fun h9 => h9) (rngL rfl) (nar_I _) (by decide) dL_sellTicket_32
    exact TX_none
  · refine T_i2l (pc := 12) C hr1.1 dL_sellTicket_12 ?_
    refine T_last (pc := 13) C hr1.1 dL_sellTicket_13 ?_
    refine T_goto (pc := 14) C 33 dL_sellTicket_14 rfl ?_
    refine T_iconst (pc := 33) C dL_sellTicket_33 ?_
    exact T_iret (pc := 34) (((r1.1, σ.2).1, (r1.1, σ.2).2.1, r1.2.2, (r1.1, σ.2).2.2.2), 0) (fun h9 => h9) (rngL rfl) (nar_I _) (by decide) dL_sellTicket_34
abbrev rm_L_refund : Room := ⟨8, 1, 6, 150⟩
theorem cm_L_refund : cmL yL_refund cL_refund 4 [(0, 9, 12, 27)] 3 := ⟨kl_37, kl_4, ⟨by decide +kernel, by decide +kernel, by decide +kernel⟩, kl_38⟩
def f_L_refund (N : Nat) (σ : SL) (x1 : Int) : Option (SL × Int) :=
  (f_X12_refund N σ.1 x1).bind fun r1 => if r1.2.1 = 0 then some (((r1.1, σ.2).1, (r1.1, σ.2).2.1, r1.2.2, (r1.1, σ.2).2.2.2), 0) else (if r1.2.1 = 4 then some ((r1.1, σ.2), 1) else none)
theorem ct_L_refund {l : Launch} {cy : Nat → ClassId} {adc adm : Nat → Nat} {E : Nat → Nat → Nat} {G : va_G} {Z : vZ} {sa : Nat → Nat} (zk : Zk Z E) (zy : Zy Z E sa) (zs : ZS Z E) (zE : ZE Z) (hst : l.stackTraces = false) (N : Nat) (σ : SL) (x1 : Int) (h1 : rng x1) (hw : wfL σ) (o : SL × Int) (h : f_L_refund N σ x1 = some o) : ClI Z l yL_refund cL_refund 4 [(0, 9, 12, 27)] rm_L_refund cy adc adm E G [.ref (adc 0), vi x1, .ref (adm 11)] σ o.1 o.2 := by
  refine clI_of (by decide) (Nat.le_of_ble_eq_true rfl) hw o h (fun X A Q hZ hX htab C => ?_)
  replace hst : X.2.1.stackTraces = false := by rw [hX]; exact hst
  replace C : Cx X (YL cy adc adm E G A 4 Q) cL_refund RL (some .int) rm_L_refund (tyL cy) := C
  replace hZ : Zx Z X (YL cy adc adm E G A 4 Q) := hZ
  show T X (YL cy adc adm E G A 4 Q) (fun w => EndI X (YL cy adc adm E G A 4 Q) cL_refund rm_L_refund .int w) 0 0 0 [(0, .ref (adc 0)), (1, vi x1), (2, .ref (adm 11))] [] σ (f_L_refund N σ x1)
  unfold f_L_refund
  refine T_aload_n (pc := 0) C dL_refund_0 rfl 2 rfl ?_
  refine T_iconst (pc := 1) C dL_refund_1 ?_
  refine T_aload_n (pc := 2) C dL_refund_2 rfl 0 rfl ?_
  refine T_iload_n (pc := 3) C dL_refund_3 rfl 1 rfl ?_
  refine T_lxi (pc := 4) zk.1 hZ C [vi x1] [vi 0, .ref (adm 11)] (fun o h9 hw => ct_X12_refund zk zy hst N σ.1 x1 h1 hw o h9) kl_36 cm_X12_refund (rcc (rfl : kd 0 = 12) (by decide) (fun _ => rfl) rfl) rfl rfl (Nat.le_of_ble_eq_true rfl) (by decide) (a' := 1) (b' := 6) ⟨rfl, rfl⟩ dL_refund_4 (fun r1 => ?_) (fun r1 hr1 => ?_)
  · refine TX_ite (fun e2 => ?_) ?_
    · refine TX_catch zy.2.2.2.2 zE hZ C htab 4 e2 [] [] (0, 9, 12, 27) rfl (List.forall_mem_nil _) (by decide) (by decide) kl_11 (by decide +kernel) (fun q3 => ?_)
      refine T_astore_n (pc := 12) (L' := [(3, .ref q3), (0, .ref (adc 0)), (1, vi x1), (2, .ref (adm 11))]) C dL_refund_12 rfl (Nat.le_of_ble_eq_true rfl) rfl ?_
      refine T_iconst (pc := 13) C dL_refund_13 ?_
      exact T_iret (pc := 14) ((r1.1, σ.2), 1) (fun h9 => h9) (rngL rfl) (nar_I _) (by decide) dL_refund_14
    exact TX_none
  · refine T_i2l (pc := 7) C hr1.1 dL_refund_7 ?_
    refine T_last (pc := 8) C hr1.1 dL_refund_8 ?_
    refine T_goto (pc := 9) C 15 dL_refund_9 rfl ?_
    refine T_iconst (pc := 15) C dL_refund_15 ?_
    exact T_iret (pc := 16) (((r1.1, σ.2).1, (r1.1, σ.2).2.1, r1.2.2, (r1.1, σ.2).2.2.2), 0) (fun h9 => h9) (rngL rfl) (nar_I _) (by decide) dL_refund_16
abbrev rm_L_advance : Room := ⟨8, 1, 6, 149⟩
theorem cm_L_advance : cmL yL_advance cL_advance 4 [(0, 9, 12, 13)] 3 := ⟨kl_40, kl_4, ⟨by decide +kernel, by decide +kernel, by decide +kernel⟩, kl_41⟩
def f_L_advance (N : Nat) (σ : SL) (x1 : Int) : Option (SL × Int) :=
  (f_X12_advance N σ.1 x1).bind fun r1 => if r1.2.1 = 0 then some (((r1.1, σ.2).1, (r1.1, σ.2).2.1, r1.2.2, (r1.1, σ.2).2.2.2), 0) else (if r1.2.1 = 2 then some ((r1.1, σ.2), 1) else none)
theorem ct_L_advance {l : Launch} {cy : Nat → ClassId} {adc adm : Nat → Nat} {E : Nat → Nat → Nat} {G : va_G} {Z : vZ} {sa : Nat → Nat} (zk : Zk Z E) (zy : Zy Z E sa) (zs : ZS Z E) (zE : ZE Z) (hst : l.stackTraces = false) (N : Nat) (σ : SL) (x1 : Int) (h1 : rng x1) (hw : wfL σ) (o : SL × Int) (h : f_L_advance N σ x1 = some o) : ClI Z l yL_advance cL_advance 4 [(0, 9, 12, 13)] rm_L_advance cy adc adm E G [.ref (adc 0), vi x1, .ref (adm 11)] σ o.1 o.2 := by
  refine clI_of (by decide) (Nat.le_of_ble_eq_true rfl) hw o h (fun X A Q hZ hX htab C => ?_)
  replace hst : X.2.1.stackTraces = false := by rw [hX]; exact hst
  replace C : Cx X (YL cy adc adm E G A 4 Q) cL_advance RL (some .int) rm_L_advance (tyL cy) := C
  replace hZ : Zx Z X (YL cy adc adm E G A 4 Q) := hZ
  show T X (YL cy adc adm E G A 4 Q) (fun w => EndI X (YL cy adc adm E G A 4 Q) cL_advance rm_L_advance .int w) 0 0 0 [(0, .ref (adc 0)), (1, vi x1), (2, .ref (adm 11))] [] σ (f_L_advance N σ x1)
  unfold f_L_advance
  refine T_aload_n (pc := 0) C dL_advance_0 rfl 2 rfl ?_
  refine T_iconst (pc := 1) C dL_advance_1 ?_
  refine T_aload_n (pc := 2) C dL_advance_2 rfl 0 rfl ?_
  refine T_iload_n (pc := 3) C dL_advance_3 rfl 1 rfl ?_
  refine T_lxi (pc := 4) zk.1 hZ C [vi x1] [vi 0, .ref (adm 11)] (fun o h9 hw => ct_X12_advance zk zy hst N σ.1 x1 h1 hw o h9) kl_39 cm_X12_advance (rcc (rfl : kd 0 = 12) (by decide) (fun _ => rfl) rfl) rfl rfl (Nat.le_of_ble_eq_true rfl) (by decide) (a' := 1) (b' := 6) ⟨rfl, rfl⟩ dL_advance_4 (fun r1 => ?_) (fun r1 hr1 => ?_)
  · refine TX_ite (fun e2 => ?_) ?_
    · refine TX_catch zy.2.2.2.2 zE hZ C htab 2 e2 [] [] (0, 9, 12, 13) rfl (List.forall_mem_nil _) (by decide) (by decide) kl_1 (by decide +kernel) (fun q3 => ?_)
      refine T_astore_n (pc := 12) (L' := [(3, .ref q3), (0, .ref (adc 0)), (1, vi x1), (2, .ref (adm 11))]) C dL_advance_12 rfl (Nat.le_of_ble_eq_true rfl) rfl ?_
      refine T_iconst (pc := 13) C dL_advance_13 ?_
      exact T_iret (pc := 14) ((r1.1, σ.2), 1) (fun h9 => h9) (rngL rfl) (nar_I _) (by decide) dL_advance_14
    exact TX_none
  · refine T_i2l (pc := 7) C hr1.1 dL_advance_7 ?_
    refine T_last (pc := 8) C hr1.1 dL_advance_8 ?_
    refine T_goto (pc := 9) C 15 dL_advance_9 rfl ?_
    refine T_iconst (pc := 15) C dL_advance_15 ?_
    exact T_iret (pc := 16) (((r1.1, σ.2).1, (r1.1, σ.2).2.1, r1.2.2, (r1.1, σ.2).2.2.2), 0) (fun h9 => h9) (rngL rfl) (nar_I _) (by decide) dL_advance_16
abbrev rm_L_transferMinutes : Room := ⟨8, 1, 6, 123⟩
theorem cm_L_transferMinutes : cmL yL_transferMinutes cL_transferMinutes 4 [(0, 9, 12, 21)] 3 := ⟨kl_43, kl_4, ⟨by decide +kernel, by decide +kernel, by decide +kernel⟩, kl_44⟩
def f_L_transferMinutes (N : Nat) (σ : SL) (x1 : Int) : Option (SL × Int) :=
  (f_X12_transferMinutes σ.1 x1).bind fun r1 => if r1.2.1 = 0 then some (((r1.1, σ.2).1, (r1.1, σ.2).2.1, r1.2.2, (r1.1, σ.2).2.2.2), 0) else (if r1.2.1 = 1 then some ((r1.1, σ.2), 1) else none)
theorem ct_L_transferMinutes {l : Launch} {cy : Nat → ClassId} {adc adm : Nat → Nat} {E : Nat → Nat → Nat} {G : va_G} {Z : vZ} {sa : Nat → Nat} (zk : Zk Z E) (zy : Zy Z E sa) (zs : ZS Z E) (zE : ZE Z) (hst : l.stackTraces = false) (N : Nat) (σ : SL) (x1 : Int) (h1 : rng x1) (hw : wfL σ) (o : SL × Int) (h : f_L_transferMinutes N σ x1 = some o) : ClI Z l yL_transferMinutes cL_transferMinutes 4 [(0, 9, 12, 21)] rm_L_transferMinutes cy adc adm E G [.ref (adc 0), vi x1, .ref (adm 11)] σ o.1 o.2 := by
  refine clI_of (by decide) (Nat.le_of_ble_eq_true rfl) hw o h (fun X A Q hZ hX htab C => ?_)
  replace hst : X.2.1.stackTraces = false := by rw [hX]; exact hst
  replace C : Cx X (YL cy adc adm E G A 4 Q) cL_transferMinutes RL (some .int) rm_L_transferMinutes (tyL cy) := C
  replace hZ : Zx Z X (YL cy adc adm E G A 4 Q) := hZ
  show T X (YL cy adc adm E G A 4 Q) (fun w => EndI X (YL cy adc adm E G A 4 Q) cL_transferMinutes rm_L_transferMinutes .int w) 0 0 0 [(0, .ref (adc 0)), (1, vi x1), (2, .ref (adm 11))] [] σ (f_L_transferMinutes N σ x1)
  unfold f_L_transferMinutes
  refine T_aload_n (pc := 0) C dL_transferMinutes_0 rfl 2 rfl ?_
  refine T_iconst (pc := 1) C dL_transferMinutes_1 ?_
  refine T_aload_n (pc := 2) C dL_transferMinutes_2 rfl 0 rfl ?_
  refine T_iload_n (pc := 3) C dL_transferMinutes_3 rfl 1 rfl ?_
  refine T_lxi (pc := 4) zk.1 hZ C [vi x1] [vi 0, .ref (adm 11)] (fun o h9 hw => ct_X12_transferMinutes zk zy hst σ.1 x1 h1 hw o h9) kl_42 cm_X12_transferMinutes (rcc (rfl : kd 0 = 12) (by decide) (fun _ => rfl) rfl) rfl rfl (Nat.le_of_ble_eq_true rfl) (by decide) (a' := 1) (b' := 6) ⟨rfl, rfl⟩ dL_transferMinutes_4 (fun r1 => ?_) (fun r1 hr1 => ?_)
  · refine TX_ite (fun e2 => ?_) ?_
    · refine TX_catch zy.2.2.2.2 zE hZ C htab 1 e2 [] [] (0, 9, 12, 21) rfl (List.forall_mem_nil _) (by decide) (by decide) kl_7 (by decide +kernel) (fun q3 => ?_)
      refine T_astore_n (pc := 12) (L' := [(3, .ref q3), (0, .ref (adc 0)), (1, vi x1), (2, .ref (adm 11))]) C dL_transferMinutes_12 rfl (Nat.le_of_ble_eq_true rfl) rfl ?_
      refine T_iconst (pc := 13) C dL_transferMinutes_13 ?_
      exact T_iret (pc := 14) ((r1.1, σ.2), 1) (fun h9 => h9) (rngL rfl) (nar_I _) (by decide) dL_transferMinutes_14
    exact TX_none
  · refine T_i2l (pc := 7) C hr1.1 dL_transferMinutes_7 ?_
    refine T_last (pc := 8) C hr1.1 dL_transferMinutes_8 ?_
    refine T_goto (pc := 9) C 15 dL_transferMinutes_9 rfl ?_
    refine T_iconst (pc := 15) C dL_transferMinutes_15 ?_
    exact T_iret (pc := 16) (((r1.1, σ.2).1, (r1.1, σ.2).2.1, r1.2.2, (r1.1, σ.2).2.2.2), 0) (fun h9 => h9) (rngL rfl) (nar_I _) (by decide) dL_transferMinutes_16
abbrev rm_L_isClosed : Room := ⟨8, 1, 6, 123⟩
theorem cm_L_isClosed : cmL yL_isClosed cL_isClosed 4 [(0, 16, 19, 21)] 3 := ⟨kl_46, kl_4, ⟨by decide +kernel, by decide +kernel, by decide +kernel⟩, kl_47⟩
def f_L_isClosed (N : Nat) (σ : SL) (x1 : Int) : Option (SL × Int) :=
  (f_X12_isClosed σ.1 x1).bind fun r1 => if r1.2.1 = 0 then (if r1.2.2 = 0 then some (((r1.1, σ.2).1, (r1.1, σ.2).2.1, 0, (r1.1, σ.2).2.2.2), 0) else some (((r1.1, σ.2).1, (r1.1, σ.2).2.1, 1, (r1.1, σ.2).2.2.2), 0)) else (if r1.2.1 = 1 then some ((r1.1, σ.2), 1) else none)
theorem ct_L_isClosed {l : Launch} {cy : Nat → ClassId} {adc adm : Nat → Nat} {E : Nat → Nat → Nat} {G : va_G} {Z : vZ} {sa : Nat → Nat} (zk : Zk Z E) (zy : Zy Z E sa) (zs : ZS Z E) (zE : ZE Z) (hst : l.stackTraces = false) (N : Nat) (σ : SL) (x1 : Int) (h1 : rng x1) (hw : wfL σ) (o : SL × Int) (h : f_L_isClosed N σ x1 = some o) : ClI Z l yL_isClosed cL_isClosed 4 [(0, 16, 19, 21)] rm_L_isClosed cy adc adm E G [.ref (adc 0), vi x1, .ref (adm 11)] σ o.1 o.2 := by
  refine clI_of (by decide) (Nat.le_of_ble_eq_true rfl) hw o h (fun X A Q hZ hX htab C => ?_)
  replace hst : X.2.1.stackTraces = false := by rw [hX]; exact hst
  replace C : Cx X (YL cy adc adm E G A 4 Q) cL_isClosed RL (some .int) rm_L_isClosed (tyL cy) := C
  replace hZ : Zx Z X (YL cy adc adm E G A 4 Q) := hZ
  show T X (YL cy adc adm E G A 4 Q) (fun w => EndI X (YL cy adc adm E G A 4 Q) cL_isClosed rm_L_isClosed .int w) 0 0 0 [(0, .ref (adc 0)), (1, vi x1), (2, .ref (adm 11))] [] σ (f_L_isClosed N σ x1)
  unfold f_L_isClosed
  refine T_aload_n (pc := 0) C dL_isClosed_0 rfl 2 rfl ?_
  refine T_iconst (pc := 1) C dL_isClosed_1 ?_
  refine T_aload_n (pc := 2) C dL_isClosed_2 rfl 0 rfl ?_
  refine T_iload_n (pc := 3) C dL_isClosed_3 rfl 1 rfl ?_
  refine T_lxi (pc := 4) zk.1 hZ C [vi x1] [vi 0, .ref (adm 11)] (fun o h9 hw => ct_X12_isClosed zk zy hst σ.1 x1 h1 hw o h9) kl_45 cm_X12_isClosed (rcc (rfl : kd 0 = 12) (by decide) (fun _ => rfl) rfl) rfl rfl (Nat.le_of_ble_eq_true rfl) (by decide) (a' := 1) (b' := 6) ⟨rfl, rfl⟩ dL_isClosed_4 (fun r1 => ?_) (fun r1 hr1 => ?_)
  · refine TX_ite (fun e2 => ?_) ?_
    · refine TX_catch zy.2.2.2.2 zE hZ C htab 1 e2 [] [] (0, 16, 19, 21) rfl (List.forall_mem_nil _) (by decide) (by decide) kl_7 (by decide +kernel) (fun q3 => ?_)
      refine T_astore_n (pc := 19) (L' := [(3, .ref q3), (0, .ref (adc 0)), (1, vi x1), (2, .ref (adm 11))]) C dL_isClosed_19 rfl (Nat.le_of_ble_eq_true rfl) rfl ?_
      refine T_iconst (pc := 20) C dL_isClosed_20 ?_
      exact T_iret (pc := 21) ((r1.1, σ.2), 1) (fun h9 => h9) (rngL rfl) (nar_I _) (by decide) dL_isClosed_21
    exact TX_none
  · refine T_if_eq (pc := 7) C 14 dL_isClosed_7 rfl hr1.1 (fun c4 => ?_) (fun c4 => ?_)
    · refine T_lconst (pc := 14) C 0 rfl dL_isClosed_14 ?_
      refine T_last (pc := 15) C (rngL rfl) dL_isClosed_15 ?_
      refine T_goto (pc := 16) C 22 dL_isClosed_16 rfl ?_
      refine T_iconst (pc := 22) C dL_isClosed_22 ?_
      exact T_iret (pc := 23) (((r1.1, σ.2).1, (r1.1, σ.2).2.1, 0, (r1.1, σ.2).2.2.2), 0) (fun h9 => h9) (rngL rfl) (nar_I _) (by decide) dL_isClosed_23
    · refine T_lconst (pc := 10) C 1 rfl dL_isClosed_10 ?_
      refine T_goto (pc := 11) C 15 dL_isClosed_11 rfl ?_
      refine T_last (pc := 15) C (rngL rfl) dL_isClosed_15 ?_
      refine T_goto (pc := 16) C 22 dL_isClosed_16 rfl ?_
      refine T_iconst (pc := 22) C dL_isClosed_22 ?_
      exact T_iret (pc := 23) (((r1.1, σ.2).1, (r1.1, σ.2).2.1, 1, (r1.1, σ.2).2.2.2), 0) (fun h9 => h9) (rngL rfl) (nar_I _) (by decide) dL_isClosed_23
abbrev rm_L_walkMinutes : Room := ⟨8, 1, 6, 124⟩
theorem cm_L_walkMinutes : cmL yL_walkMinutes cL_walkMinutes 5 [(0, 10, 13, 21), (0, 10, 17, 27)] 4 := ⟨kl_49, kl_4, ⟨by decide +kernel, by decide +kernel, by decide +kernel⟩, kl_50⟩
def f_L_walkMinutes (N : Nat) (σ : SL) (x1 : Int) (x2 : Int) : Option (SL × Int) :=
  (f_X12_walkMinutes σ.1 x1 x2).bind fun r1 => if r1.2.1 = 0 then some (((r1.1, σ.2).1, (r1.1, σ.2).2.1, r1.2.2, (r1.1, σ.2).2.2.2), 0) else (if r1.2.1 = 1 then some ((r1.1, σ.2), 1) else (if r1.2.1 = 4 then some ((r1.1, σ.2), 2) else none))
theorem ct_L_walkMinutes {l : Launch} {cy : Nat → ClassId} {adc adm : Nat → Nat} {E : Nat → Nat → Nat} {G : va_G} {Z : vZ} {sa : Nat → Nat} (zk : Zk Z E) (zy : Zy Z E sa) (zs : ZS Z E) (zE : ZE Z) (hst : l.stackTraces = false) (N : Nat) (σ : SL) (x1 : Int) (x2 : Int) (h1 : rng x1) (h2 : rng x2) (hw : wfL σ) (o : SL × Int) (h : f_L_walkMinutes N σ x1 x2 = some o) : ClI Z l yL_walkMinutes cL_walkMinutes 5 [(0, 10, 13, 21), (0, 10, 17, 27)] rm_L_walkMinutes cy adc adm E G [.ref (adc 0), vi x1, vi x2, .ref (adm 11)] σ o.1 o.2 := by
  refine clI_of (by decide) (Nat.le_of_ble_eq_true rfl) hw o h (fun X A Q hZ hX htab C => ?_)
  replace hst : X.2.1.stackTraces = false := by rw [hX]; exact hst
  replace C : Cx X (YL cy adc adm E G A 5 Q) cL_walkMinutes RL (some .int) rm_L_walkMinutes (tyL cy) := C
  replace hZ : Zx Z X (YL cy adc adm E G A 5 Q) := hZ
  show T X (YL cy adc adm E G A 5 Q) (fun w => EndI X (YL cy adc adm E G A 5 Q) cL_walkMinutes rm_L_walkMinutes .int w) 0 0 0 [(0, .ref (adc 0)), (1, vi x1), (2, vi x2), (3, .ref (adm 11))] [] σ (f_L_walkMinutes N σ x1 x2)
  unfold f_L_walkMinutes
  refine T_aload_n (pc := 0) C dL_walkMinutes_0 rfl 3 rfl ?_
  refine T_iconst (pc := 1) C dL_walkMinutes_1 ?_
  refine T_aload_n (pc := 2) C dL_walkMinutes_2 rfl 0 rfl ?_
  refine T_iload_n (pc := 3) C dL_walkMinutes_3 rfl 1 rfl ?_
  refine T_iload_n (pc := 4) C dL_walkMinutes_4 rfl 2 rfl ?_
  refine T_lxi (pc := 5) zk.1 hZ C [vi x1, vi x2] [vi 0, .ref (adm 11)] (fun o h9 hw => ct_X12_walkMinutes zk zy hst σ.1 x1 x2 h1 h2 hw o h9) kl_48 cm_X12_walkMinutes (rcc (rfl : kd 0 = 12) (by decide) (fun _ => rfl) rfl) rfl rfl (Nat.le_of_ble_eq_true rfl) (by decide) (a' := 1) (b' := 6) ⟨rfl, rfl⟩ dL_walkMinutes_5 (fun r1 => ?_) (fun r1 hr1 => ?_)
  · refine TX_ite (fun e2 => ?_) ?_
    · refine TX_catch zy.2.2.2.2 zE hZ C htab 1 e2 [] [(0, 10, 17, 27)] (0, 10, 13, 21) rfl (List.forall_mem_nil _) (by decide) (by decide) kl_7 (by decide +kernel) (fun q3 => ?_)
      refine T_astore (pc := 13) (L' := [(4, .ref q3), (0, .ref (adc 0)), (1, vi x1), (2, vi x2), (3, .ref (adm 11))]) C dL_walkMinutes_13 (Nat.le_of_ble_eq_true rfl) rfl ?_
      refine T_iconst (pc := 15) C dL_walkMinutes_15 ?_
      exact T_iret (pc := 16) ((r1.1, σ.2), 1) (fun h9 => h9) (rngL rfl) (nar_I _) (by decide) dL_walkMinutes_16
    refine TX_ite (fun e4 => ?_) ?_
    · refine TX_catch zy.2.2.2.2 zE hZ C htab 4 e4 [(0, 10, 13, 21)] [] (0, 10, 17, 27) rfl (List.forall_mem_cons.mpr ⟨⟨by decide, 1, kl_7, by decide⟩, (List.forall_mem_nil _)⟩) (by decide) (by decide) kl_11 (by decide +kernel) (fun q5 => ?_)
      refine T_astore (pc := 17) (L' := [(4, .ref q5), (0, .ref (adc 0)), (1, vi x1), (2, vi x2), (3, .ref (adm 11))]) C dL_walkMinutes_17 (Nat.le_of_ble_eq_true rfl) rfl ?_
      refine T_iconst (pc := 19) C dL_walkMinutes_19 ?_
      exact T_iret (pc := 20) ((r1.1, σ.2), 2) (fun h9 => h9) (rngL rfl) (nar_I _) (by decide) dL_walkMinutes_20
    exact TX_none
  · refine T_i2l (pc := 8) C hr1.1 dL_walkMinutes_8 ?_
    refine T_last (pc := 9) C hr1.1 dL_walkMinutes_9 ?_
    refine T_goto (pc := 10) C 21 dL_walkMinutes_10 rfl ?_
    refine T_iconst (pc := 21) C dL_walkMinutes_21 ?_
    exact T_iret (pc := 22) (((r1.1, σ.2).1, (r1.1, σ.2).2.1, r1.2.2, (r1.1, σ.2).2.2.2), 0) (fun h9 => h9) (rngL rfl) (nar_I _) (by decide) dL_walkMinutes_22
abbrev rm_L_ringSize : Room := ⟨8, 1, 6, 123⟩
theorem cm_L_ringSize : cmL yL_ringSize cL_ringSize 4 [(0, 9, 12, 21)] 3 := ⟨kl_52, kl_4, ⟨by decide +kernel, by decide +kernel, by decide +kernel⟩, kl_53⟩
def f_L_ringSize (N : Nat) (σ : SL) (x1 : Int) : Option (SL × Int) :=
  (f_X12_ringSize σ.1 x1).bind fun r1 => if r1.2.1 = 0 then some (((r1.1, σ.2).1, (r1.1, σ.2).2.1, r1.2.2, (r1.1, σ.2).2.2.2), 0) else (if r1.2.1 = 1 then some ((r1.1, σ.2), 1) else none)
theorem ct_L_ringSize {l : Launch} {cy : Nat → ClassId} {adc adm : Nat → Nat} {E : Nat → Nat → Nat} {G : va_G} {Z : vZ} {sa : Nat → Nat} (zk : Zk Z E) (zy : Zy Z E sa) (zs : ZS Z E) (zE : ZE Z) (hst : l.stackTraces = false) (N : Nat) (σ : SL) (x1 : Int) (h1 : rng x1) (hw : wfL σ) (o : SL × Int) (h : f_L_ringSize N σ x1 = some o) : ClI Z l yL_ringSize cL_ringSize 4 [(0, 9, 12, 21)] rm_L_ringSize cy adc adm E G [.ref (adc 0), vi x1, .ref (adm 11)] σ o.1 o.2 := by
  refine clI_of (by decide) (Nat.le_of_ble_eq_true rfl) hw o h (fun X A Q hZ hX htab C => ?_)
  replace hst : X.2.1.stackTraces = false := by rw [hX]; exact hst
  replace C : Cx X (YL cy adc adm E G A 4 Q) cL_ringSize RL (some .int) rm_L_ringSize (tyL cy) := C
  replace hZ : Zx Z X (YL cy adc adm E G A 4 Q) := hZ
  show T X (YL cy adc adm E G A 4 Q) (fun w => EndI X (YL cy adc adm E G A 4 Q) cL_ringSize rm_L_ringSize .int w) 0 0 0 [(0, .ref (adc 0)), (1, vi x1), (2, .ref (adm 11))] [] σ (f_L_ringSize N σ x1)
  unfold f_L_ringSize
  refine T_aload_n (pc := 0) C dL_ringSize_0 rfl 2 rfl ?_
  refine T_iconst (pc := 1) C dL_ringSize_1 ?_
  refine T_aload_n (pc := 2) C dL_ringSize_2 rfl 0 rfl ?_
  refine T_iload_n (pc := 3) C dL_ringSize_3 rfl 1 rfl ?_
  refine T_lxi (pc := 4) zk.1 hZ C [vi x1] [vi 0, .ref (adm 11)] (fun o h9 hw => ct_X12_ringSize zk zy hst σ.1 x1 h1 hw o h9) kl_51 cm_X12_ringSize (rcc (rfl : kd 0 = 12) (by decide) (fun _ => rfl) rfl) rfl rfl (Nat.le_of_ble_eq_true rfl) (by decide) (a' := 1) (b' := 6) ⟨rfl, rfl⟩ dL_ringSize_4 (fun r1 => ?_) (fun r1 hr1 => ?_)
  · refine TX_ite (fun e2 => ?_) ?_
    · refine TX_catch zy.2.2.2.2 zE hZ C htab 1 e2 [] [] (0, 9, 12, 21) rfl (List.forall_mem_nil _) (by decide) (by decide) kl_7 (by decide +kernel) (fun q3 => ?_)
      refine T_astore_n (pc := 12) (L' := [(3, .ref q3), (0, .ref (adc 0)), (1, vi x1), (2, .ref (adm 11))]) C dL_ringSize_12 rfl (Nat.le_of_ble_eq_true rfl) rfl ?_
      refine T_iconst (pc := 13) C dL_ringSize_13 ?_
      exact T_iret (pc := 14) ((r1.1, σ.2), 1) (fun h9 => h9) (rngL rfl) (nar_I _) (by decide) dL_ringSize_14
    exact TX_none
  · refine T_i2l (pc := 7) C hr1.1 dL_ringSize_7 ?_
    refine T_last (pc := 8) C hr1.1 dL_ringSize_8 ?_
    refine T_goto (pc := 9) C 15 dL_ringSize_9 rfl ?_
    refine T_iconst (pc := 15) C dL_ringSize_15 ?_
    exact T_iret (pc := 16) (((r1.1, σ.2).1, (r1.1, σ.2).2.1, r1.2.2, (r1.1, σ.2).2.2.2), 0) (fun h9 => h9) (rngL rfl) (nar_I _) (by decide) dL_ringSize_16
abbrev rm_L_stopAt : Room := ⟨8, 2, 12, 124⟩
theorem cm_L_stopAt : cmL yL_stopAt cL_stopAt 5 [(0, 10, 13, 21), (0, 10, 17, 27)] 4 := ⟨kl_55, kl_4, ⟨by decide +kernel, by decide +kernel, by decide +kernel⟩, kl_56⟩
def f_L_stopAt (N : Nat) (σ : SL) (x1 : Int) (x2 : Int) : Option (SL × Int) :=
  (f_X12_stopAt σ.1 x1 x2).bind fun r1 => if r1.2.1 = 0 then some (((r1.1, σ.2).1, (r1.1, σ.2).2.1, r1.2.2, (r1.1, σ.2).2.2.2), 0) else (if r1.2.1 = 1 then some ((r1.1, σ.2), 1) else (if r1.2.1 = 4 then some ((r1.1, σ.2), 2) else none))
theorem ct_L_stopAt {l : Launch} {cy : Nat → ClassId} {adc adm : Nat → Nat} {E : Nat → Nat → Nat} {G : va_G} {Z : vZ} {sa : Nat → Nat} (zk : Zk Z E) (zy : Zy Z E sa) (zs : ZS Z E) (zE : ZE Z) (hst : l.stackTraces = false) (N : Nat) (σ : SL) (x1 : Int) (x2 : Int) (h1 : rng x1) (h2 : rng x2) (hw : wfL σ) (o : SL × Int) (h : f_L_stopAt N σ x1 x2 = some o) : ClI Z l yL_stopAt cL_stopAt 5 [(0, 10, 13, 21), (0, 10, 17, 27)] rm_L_stopAt cy adc adm E G [.ref (adc 0), vi x1, vi x2, .ref (adm 11)] σ o.1 o.2 := by
  refine clI_of (by decide) (Nat.le_of_ble_eq_true rfl) hw o h (fun X A Q hZ hX htab C => ?_)
  replace hst : X.2.1.stackTraces = false := by rw [hX]; exact hst
  replace C : Cx X (YL cy adc adm E G A 5 Q) cL_stopAt RL (some .int) rm_L_stopAt (tyL cy) := C
  replace hZ : Zx Z X (YL cy adc adm E G A 5 Q) := hZ
  show T X (YL cy adc adm E G A 5 Q) (fun w => EndI X (YL cy adc adm E G A 5 Q) cL_stopAt rm_L_stopAt .int w) 0 0 0 [(0, .ref (adc 0)), (1, vi x1), (2, vi x2), (3, .ref (adm 11))] [] σ (f_L_stopAt N σ x1 x2)
  unfold f_L_stopAt
  refine T_aload_n (pc := 0) C dL_stopAt_0 rfl 3 rfl ?_
  refine T_iconst (pc := 1) C dL_stopAt_1 ?_
  refine T_aload_n (pc := 2) C dL_stopAt_2 rfl 0 rfl ?_
  refine T_iload_n (pc := 3) C dL_stopAt_3 rfl 1 rfl ?_
  refine T_iload_n (pc := 4) C dL_stopAt_4 rfl 2 rfl ?_
  refine T_lxi (pc := 5) zk.1 hZ C [vi x1, vi x2] [vi 0, .ref (adm 11)] (fun o h9 hw => ct_X12_stopAt zk zy hst σ.1 x1 x2 h1 h2 hw o h9) kl_54 cm_X12_stopAt (rcc (rfl : kd 0 = 12) (by decide) (fun _ => rfl) rfl) rfl rfl (Nat.le_of_ble_eq_true rfl) (by decide) (a' := 2) (b' := 12) ⟨rfl, rfl⟩ dL_stopAt_5 (fun r1 => ?_) (fun r1 hr1 => ?_)
  · refine TX_ite (fun e2 => ?_) ?_
    · refine TX_catch zy.2.2.2.2 zE hZ C htab 1 e2 [] [(0, 10, 17, 27)] (0, 10, 13, 21) rfl (List.forall_mem_nil _) (by decide) (by decide) kl_7 (by decide +kernel) (fun q3 => ?_)
      refine T_astore (pc := 13) (L' := [(4, .ref q3), (0, .ref (adc 0)), (1, vi x1), (2, vi x2), (3, .ref (adm 11))]) C dL_stopAt_13 (Nat.le_of_ble_eq_true rfl) rfl ?_
      refine T_iconst (pc := 15) C dL_stopAt_15 ?_
      exact T_iret (pc := 16) ((r1.1, σ.2), 1) (fun h9 => h9) (rngL rfl) (nar_I _) (by decide) dL_stopAt_16
    refine TX_ite (fun e4 => ?_) ?_
    · refine TX_catch zy.2.2.2.2 zE hZ C htab 4 e4 [(0, 10, 13, 21)] [] (0, 10, 17, 27) rfl (List.forall_mem_cons.mpr ⟨⟨by decide, 1, kl_7, by decide⟩, (List.forall_mem_nil _)⟩) (by decide) (by decide) kl_11 (by decide +kernel) (fun q5 => ?_)
      refine T_astore (pc := 17) (L' := [(4, .ref q5), (0, .ref (adc 0)), (1, vi x1), (2, vi x2), (3, .ref (adm 11))]) C dL_stopAt_17 (Nat.le_of_ble_eq_true rfl) rfl ?_
      refine T_iconst (pc := 19) C dL_stopAt_19 ?_
      exact T_iret (pc := 20) ((r1.1, σ.2), 2) (fun h9 => h9) (rngL rfl) (nar_I _) (by decide) dL_stopAt_20
    exact TX_none
  · refine T_i2l (pc := 8) C hr1.1 dL_stopAt_8 ?_
    refine T_last (pc := 9) C hr1.1 dL_stopAt_9 ?_
    refine T_goto (pc := 10) C 21 dL_stopAt_10 rfl ?_
    refine T_iconst (pc := 21) C dL_stopAt_21 ?_
    exact T_iret (pc := 22) (((r1.1, σ.2).1, (r1.1, σ.2).2.1, r1.2.2, (r1.1, σ.2).2.2.2), 0) (fun h9 => h9) (rngL rfl) (nar_I _) (by decide) dL_stopAt_22
abbrev rm_L_positionOf : Room := ⟨8, 2, 12, 125⟩
theorem cm_L_positionOf : cmL yL_positionOf cL_positionOf 5 [(0, 10, 13, 21), (0, 10, 17, 27)] 4 := ⟨kl_58, kl_4, ⟨by decide +kernel, by decide +kernel, by decide +kernel⟩, kl_59⟩
def f_L_positionOf (N : Nat) (σ : SL) (x1 : Int) (x2 : Int) : Option (SL × Int) :=
  (f_X12_positionOf N σ.1 x1 x2).bind fun r1 => if r1.2.1 = 0 then some (((r1.1, σ.2).1, (r1.1, σ.2).2.1, r1.2.2, (r1.1, σ.2).2.2.2), 0) else (if r1.2.1 = 1 then some ((r1.1, σ.2), 1) else (if r1.2.1 = 4 then some ((r1.1, σ.2), 2) else none))
theorem ct_L_positionOf {l : Launch} {cy : Nat → ClassId} {adc adm : Nat → Nat} {E : Nat → Nat → Nat} {G : va_G} {Z : vZ} {sa : Nat → Nat} (zk : Zk Z E) (zy : Zy Z E sa) (zs : ZS Z E) (zE : ZE Z) (hst : l.stackTraces = false) (N : Nat) (σ : SL) (x1 : Int) (x2 : Int) (h1 : rng x1) (h2 : rng x2) (hw : wfL σ) (o : SL × Int) (h : f_L_positionOf N σ x1 x2 = some o) : ClI Z l yL_positionOf cL_positionOf 5 [(0, 10, 13, 21), (0, 10, 17, 27)] rm_L_positionOf cy adc adm E G [.ref (adc 0), vi x1, vi x2, .ref (adm 11)] σ o.1 o.2 := by
  refine clI_of (by decide) (Nat.le_of_ble_eq_true rfl) hw o h (fun X A Q hZ hX htab C => ?_)
  replace hst : X.2.1.stackTraces = false := by rw [hX]; exact hst
  replace C : Cx X (YL cy adc adm E G A 5 Q) cL_positionOf RL (some .int) rm_L_positionOf (tyL cy) := C
  replace hZ : Zx Z X (YL cy adc adm E G A 5 Q) := hZ
  show T X (YL cy adc adm E G A 5 Q) (fun w => EndI X (YL cy adc adm E G A 5 Q) cL_positionOf rm_L_positionOf .int w) 0 0 0 [(0, .ref (adc 0)), (1, vi x1), (2, vi x2), (3, .ref (adm 11))] [] σ (f_L_positionOf N σ x1 x2)
  unfold f_L_positionOf
  refine T_aload_n (pc := 0) C dL_positionOf_0 rfl 3 rfl ?_
  refine T_iconst (pc := 1) C dL_positionOf_1 ?_
  refine T_aload_n (pc := 2) C dL_positionOf_2 rfl 0 rfl ?_
  refine T_iload_n (pc := 3) C dL_positionOf_3 rfl 1 rfl ?_
  refine T_iload_n (pc := 4) C dL_positionOf_4 rfl 2 rfl ?_
  refine T_lxi (pc := 5) zk.1 hZ C [vi x1, vi x2] [vi 0, .ref (adm 11)] (fun o h9 hw => ct_X12_positionOf zk zy hst N σ.1 x1 x2 h1 h2 hw o h9) kl_57 cm_X12_positionOf (rcc (rfl : kd 0 = 12) (by decide) (fun _ => rfl) rfl) rfl rfl (Nat.le_of_ble_eq_true rfl) (by decide) (a' := 2) (b' := 12) ⟨rfl, rfl⟩ dL_positionOf_5 (fun r1 => ?_) (fun r1 hr1 => ?_)
  · refine TX_ite (fun e2 => ?_) ?_
    · refine TX_catch zy.2.2.2.2 zE hZ C htab 1 e2 [] [(0, 10, 17, 27)] (0, 10, 13, 21) rfl (List.forall_mem_nil _) (by decide) (by decide) kl_7 (by decide +kernel) (fun q3 => ?_)
      refine T_astore (pc := 13) (L' := [(4, .ref q3), (0, .ref (adc 0)), (1, vi x1), (2, vi x2), (3, .ref (adm 11))]) C dL_positionOf_13 (Nat.le_of_ble_eq_true rfl) rfl ?_
      refine T_iconst (pc := 15) C dL_positionOf_15 ?_
      exact T_iret (pc := 16) ((r1.1, σ.2), 1) (fun h9 => h9) (rngL rfl) (nar_I _) (by decide) dL_positionOf_16
    refine TX_ite (fun e4 => ?_) ?_
    · refine TX_catch zy.2.2.2.2 zE hZ C htab 4 e4 [(0, 10, 13, 21)] [] (0, 10, 17, 27) rfl (List.forall_mem_cons.mpr ⟨⟨by decide, 1, kl_7, by decide⟩, (List.forall_mem_nil _)⟩) (by decide) (by decide) kl_11 (by decide +kernel) (fun q5 => ?_)
      refine T_astore (pc := 17) (L' := [(4, .ref q5), (0, .ref (adc 0)), (1, vi x1), (2, vi x2), (3, .ref (adm 11))]) C dL_positionOf_17 (Nat.le_of_ble_eq_true rfl) rfl ?_
      refine T_iconst (pc := 19) C dL_positionOf_19 ?_
      exact T_iret (pc := 20) ((r1.1, σ.2), 2) (fun h9 => h9) (rngL rfl) (nar_I _) (by decide) dL_positionOf_20
    exact TX_none
  · refine T_i2l (pc := 8) C hr1.1 dL_positionOf_8 ?_
    refine T_last (pc := 9) C hr1.1 dL_positionOf_9 ?_
    refine T_goto (pc := 10) C 21 dL_positionOf_10 rfl ?_
    refine T_iconst (pc := 21) C dL_positionOf_21 ?_
    exact T_iret (pc := 22) (((r1.1, σ.2).1, (r1.1, σ.2).2.1, r1.2.2, (r1.1, σ.2).2.2.2), 0) (fun h9 => h9) (rngL rfl) (nar_I _) (by decide) dL_positionOf_22
abbrev rm_L_hopMinutes : Room := ⟨8, 1, 6, 123⟩
theorem cm_L_hopMinutes : cmL yL_hopMinutes cL_hopMinutes 4 [(0, 9, 12, 21)] 3 := ⟨kl_61, kl_4, ⟨by decide +kernel, by decide +kernel, by decide +kernel⟩, kl_62⟩
def f_L_hopMinutes (N : Nat) (σ : SL) (x1 : Int) : Option (SL × Int) :=
  (f_X12_hopMinutes σ.1 x1).bind fun r1 => if r1.2.1 = 0 then some (((r1.1, σ.2).1, (r1.1, σ.2).2.1, r1.2.2, (r1.1, σ.2).2.2.2), 0) else (if r1.2.1 = 1 then some ((r1.1, σ.2), 1) else none)
theorem ct_L_hopMinutes {l : Launch} {cy : Nat → ClassId} {adc adm : Nat → Nat} {E : Nat → Nat → Nat} {G : va_G} {Z : vZ} {sa : Nat → Nat} (zk : Zk Z E) (zy : Zy Z E sa) (zs : ZS Z E) (zE : ZE Z) (hst : l.stackTraces = false) (N : Nat) (σ : SL) (x1 : Int) (h1 : rng x1) (hw : wfL σ) (o : SL × Int) (h : f_L_hopMinutes N σ x1 = some o) : ClI Z l yL_hopMinutes cL_hopMinutes 4 [(0, 9, 12, 21)] rm_L_hopMinutes cy adc adm E G [.ref (adc 0), vi x1, .ref (adm 11)] σ o.1 o.2 := by
  refine clI_of (by decide) (Nat.le_of_ble_eq_true rfl) hw o h (fun X A Q hZ hX htab C => ?_)
  replace hst : X.2.1.stackTraces = false := by rw [hX]; exact hst
  replace C : Cx X (YL cy adc adm E G A 4 Q) cL_hopMinutes RL (some .int) rm_L_hopMinutes (tyL cy) := C
  replace hZ : Zx Z X (YL cy adc adm E G A 4 Q) := hZ
  show T X (YL cy adc adm E G A 4 Q) (fun w => EndI X (YL cy adc adm E G A 4 Q) cL_hopMinutes rm_L_hopMinutes .int w) 0 0 0 [(0, .ref (adc 0)), (1, vi x1), (2, .ref (adm 11))] [] σ (f_L_hopMinutes N σ x1)
  unfold f_L_hopMinutes
  refine T_aload_n (pc := 0) C dL_hopMinutes_0 rfl 2 rfl ?_
  refine T_iconst (pc := 1) C dL_hopMinutes_1 ?_
  refine T_aload_n (pc := 2) C dL_hopMinutes_2 rfl 0 rfl ?_
  refine T_iload_n (pc := 3) C dL_hopMinutes_3 rfl 1 rfl ?_
  refine T_lxi (pc := 4) zk.1 hZ C [vi x1] [vi 0, .ref (adm 11)] (fun o h9 hw => ct_X12_hopMinutes zk zy hst σ.1 x1 h1 hw o h9) kl_60 cm_X12_hopMinutes (rcc (rfl : kd 0 = 12) (by decide) (fun _ => rfl) rfl) rfl rfl (Nat.le_of_ble_eq_true rfl) (by decide) (a' := 1) (b' := 6) ⟨rfl, rfl⟩ dL_hopMinutes_4 (fun r1 => ?_) (fun r1 hr1 => ?_)
  · refine TX_ite (fun e2 => ?_) ?_
    · refine TX_catch zy.2.2.2.2 zE hZ C htab 1 e2 [] [] (0, 9, 12, 21) rfl (List.forall_mem_nil _) (by decide) (by decide) kl_7 (by decide +kernel) (fun q3 => ?_)
      refine T_astore_n (pc := 12) (L' := [(3, .ref q3), (0, .ref (adc 0)), (1, vi x1), (2, .ref (adm 11))]) C dL_hopMinutes_12 rfl (Nat.le_of_ble_eq_true rfl) rfl ?_
      refine T_iconst (pc := 13) C dL_hopMinutes_13 ?_
      exact T_iret (pc := 14) ((r1.1, σ.2), 1) (fun h9 => h9) (rngL rfl) (nar_I _) (by decide) dL_hopMinutes_14
    exact TX_none
  · refine T_i2l (pc := 7) C hr1.1 dL_hopMinutes_7 ?_
    refine T_last (pc := 8) C hr1.1 dL_hopMinutes_8 ?_
    refine T_goto (pc := 9) C 15 dL_hopMinutes_9 rfl ?_
    refine T_iconst (pc := 15) C dL_hopMinutes_15 ?_
    exact T_iret (pc := 16) (((r1.1, σ.2).1, (r1.1, σ.2).2.1, r1.2.2, (r1.1, σ.2).2.2.2), 0) (fun h9 => h9) (rngL rfl) (nar_I _) (by decide) dL_hopMinutes_16
abbrev rm_L_runs : Room := ⟨8, 1, 6, 123⟩
theorem cm_L_runs : cmL yL_runs cL_runs 4 [(0, 16, 19, 21)] 3 := ⟨kl_64, kl_4, ⟨by decide +kernel, by decide +kernel, by decide +kernel⟩, kl_65⟩
def f_L_runs (N : Nat) (σ : SL) (x1 : Int) : Option (SL × Int) :=
  (f_X12_runs σ.1 x1).bind fun r1 => if r1.2.1 = 0 then (if r1.2.2 = 0 then some (((r1.1, σ.2).1, (r1.1, σ.2).2.1, 0, (r1.1, σ.2).2.2.2), 0) else some (((r1.1, σ.2).1, (r1.1, σ.2).2.1, 1, (r1.1, σ.2).2.2.2), 0)) else (if r1.2.1 = 1 then some ((r1.1, σ.2), 1) else none)
theorem ct_L_runs {l : Launch} {cy : Nat → ClassId} {adc adm : Nat → Nat} {E : Nat → Nat → Nat} {G : va_G} {Z : vZ} {sa : Nat → Nat} (zk : Zk Z E) (zy : Zy Z E sa) (zs : ZS Z E) (zE : ZE Z) (hst : l.stackTraces = false) (N : Nat) (σ : SL) (x1 : Int) (h1 : rng x1) (hw : wfL σ) (o : SL × Int) (h : f_L_runs N σ x1 = some o) : ClI Z l yL_runs cL_runs 4 [(0, 16, 19, 21)] rm_L_runs cy adc adm E G [.ref (adc 0), vi x1, .ref (adm 11)] σ o.1 o.2 := by
  refine clI_of (by decide) (Nat.le_of_ble_eq_true rfl) hw o h (fun X A Q hZ hX htab C => ?_)
  replace hst : X.2.1.stackTraces = false := by rw [hX]; exact hst
  replace C : Cx X (YL cy adc adm E G A 4 Q) cL_runs RL (some .int) rm_L_runs (tyL cy) := C
  replace hZ : Zx Z X (YL cy adc adm E G A 4 Q) := hZ
  show T X (YL cy adc adm E G A 4 Q) (fun w => EndI X (YL cy adc adm E G A 4 Q) cL_runs rm_L_runs .int w) 0 0 0 [(0, .ref (adc 0)), (1, vi x1), (2, .ref (adm 11))] [] σ (f_L_runs N σ x1)
  unfold f_L_runs
  refine T_aload_n (pc := 0) C dL_runs_0 rfl 2 rfl ?_
  refine T_iconst (pc := 1) C dL_runs_1 ?_
  refine T_aload_n (pc := 2) C dL_runs_2 rfl 0 rfl ?_
  refine T_iload_n (pc := 3) C dL_runs_3 rfl 1 rfl ?_
  refine T_lxi (pc := 4) zk.1 hZ C [vi x1] [vi 0, .ref (adm 11)] (fun o h9 hw => ct_X12_runs zk zy hst σ.1 x1 h1 hw o h9) kl_63 cm_X12_runs (rcc (rfl : kd 0 = 12) (by decide) (fun _ => rfl) rfl) rfl rfl (Nat.le_of_ble_eq_true rfl) (by decide) (a' := 1) (b' := 6) ⟨rfl, rfl⟩ dL_runs_4 (fun r1 => ?_) (fun r1 hr1 => ?_)
  · refine TX_ite (fun e2 => ?_) ?_
    · refine TX_catch zy.2.2.2.2 zE hZ C htab 1 e2 [] [] (0, 16, 19, 21) rfl (List.forall_mem_nil _) (by decide) (by decide) kl_7 (by decide +kernel) (fun q3 => ?_)
      refine T_astore_n (pc := 19) (L' := [(3, .ref q3), (0, .ref (adc 0)), (1, vi x1), (2, .ref (adm 11))]) C dL_runs_19 rfl (Nat.le_of_ble_eq_true rfl) rfl ?_
      refine T_iconst (pc := 20) C dL_runs_20 ?_
      exact T_iret (pc := 21) ((r1.1, σ.2), 1) (fun h9 => h9) (rngL rfl) (nar_I _) (by decide) dL_runs_21
    exact TX_none
  · refine T_if_eq (pc := 7) C 14 dL_runs_7 rfl hr1.1 (fun c4 => ?_) (fun c4 => ?_)
    · refine T_lconst (pc := 14) C 0 rfl dL_runs_14 ?_
      refine T_last (pc := 15) C (rngL rfl) dL_runs_15 ?_
      refine T_goto (pc := 16) C 22 dL_runs_16 rfl ?_
      refine T_iconst (pc := 22) C dL_runs_22 ?_
      exact T_iret (pc := 23) (((r1.1, σ.2).1, (r1.1, σ.2).2.1, 0, (r1.1, σ.2).2.2.2), 0) (fun h9 => h9) (rngL rfl) (nar_I _) (by decide) dL_runs_23
    · refine T_lconst (pc := 10) C 1 rfl dL_runs_10 ?_
      refine T_goto (pc := 11) C 15 dL_runs_11 rfl ?_
      refine T_last (pc := 15) C (rngL rfl) dL_runs_15 ?_
      refine T_goto (pc := 16) C 22 dL_runs_16 rfl ?_
      refine T_iconst (pc := 22) C dL_runs_22 ?_
      exact T_iret (pc := 23) (((r1.1, σ.2).1, (r1.1, σ.2).2.1, 1, (r1.1, σ.2).2.2.2), 0) (fun h9 => h9) (rngL rfl) (nar_I _) (by decide) dL_runs_23
abbrev rm_L_tripMinute : Room := ⟨8, 1, 6, 125⟩
theorem cm_L_tripMinute : cmL yL_tripMinute cL_tripMinute 6 [(0, 12, 15, 21), (0, 12, 19, 13), (0, 12, 23, 15)] 5 := ⟨kl_67, kl_4, ⟨by decide +kernel, by decide +kernel, by decide +kernel⟩, kl_68⟩
def f_L_tripMinute (N : Nat) (σ : SL) (x1 : Int) (x2 : Int) (x3 : Int) : Option (SL × Int) :=
  (f_X12_tripMinute σ.1 x1 x2 x3).bind fun r1 => if r1.2.1 = 0 then some (((r1.1, σ.2).1, (r1.1, σ.2).2.1, r1.2.2, (r1.1, σ.2).2.2.2), 0) else (if r1.2.1 = 1 then some ((r1.1, σ.2), 1) else (if r1.2.1 = 2 then some ((r1.1, σ.2), 2) else (if r1.2.1 = 3 then some ((r1.1, σ.2), 3) else none)))
theorem ct_L_tripMinute {l : Launch} {cy : Nat → ClassId} {adc adm : Nat → Nat} {E : Nat → Nat → Nat} {G : va_G} {Z : vZ} {sa : Nat → Nat} (zk : Zk Z E) (zy : Zy Z E sa) (zs : ZS Z E) (zE : ZE Z) (hst : l.stackTraces = false) (N : Nat) (σ : SL) (x1 : Int) (x2 : Int) (x3 : Int) (h1 : rng x1) (h2 : rng x2) (h3 : rng x3) (hw : wfL σ) (o : SL × Int) (h : f_L_tripMinute N σ x1 x2 x3 = some o) : ClI Z l yL_tripMinute cL_tripMinute 6 [(0, 12, 15, 21), (0, 12, 19, 13), (0, 12, 23, 15)] rm_L_tripMinute cy adc adm E G [.ref (adc 0), vi x1, vi x2, vi x3, .ref (adm 11)] σ o.1 o.2 := by
  refine clI_of (by decide) (Nat.le_of_ble_eq_true rfl) hw o h (fun X A Q hZ hX htab C => ?_)
  replace hst : X.2.1.stackTraces = false := by rw [hX]; exact hst
  replace C : Cx X (YL cy adc adm E G A 6 Q) cL_tripMinute RL (some .int) rm_L_tripMinute (tyL cy) := C
  replace hZ : Zx Z X (YL cy adc adm E G A 6 Q) := hZ
  show T X (YL cy adc adm E G A 6 Q) (fun w => EndI X (YL cy adc adm E G A 6 Q) cL_tripMinute rm_L_tripMinute .int w) 0 0 0 [(0, .ref (adc 0)), (1, vi x1), (2, vi x2), (3, vi x3), (4, .ref (adm 11))] [] σ (f_L_tripMinute N σ x1 x2 x3)
  unfold f_L_tripMinute
  refine T_aload (pc := 0) C dL_tripMinute_0 4 rfl ?_
  refine T_iconst (pc := 2) C dL_tripMinute_2 ?_
  refine T_aload_n (pc := 3) C dL_tripMinute_3 rfl 0 rfl ?_
  refine T_iload_n (pc := 4) C dL_tripMinute_4 rfl 1 rfl ?_
  refine T_iload_n (pc := 5) C dL_tripMinute_5 rfl 2 rfl ?_
  refine T_iload_n (pc := 6) C dL_tripMinute_6 rfl 3 rfl ?_
  refine T_lxi (pc := 7) zk.1 hZ C [vi x1, vi x2, vi x3] [vi 0, .ref (adm 11)] (fun o h9 hw => ct_X12_tripMinute zk zy hst σ.1 x1 x2 x3 h1 h2 h3 hw o h9) kl_66 cm_X12_tripMinute (rcc (rfl : kd 0 = 12) (by decide) (fun _ => rfl) rfl) rfl rfl (Nat.le_of_ble_eq_true rfl) (by decide) (a' := 1) (b' := 6) ⟨rfl, rfl⟩ dL_tripMinute_7 (fun r1 => ?_) (fun r1 hr1 => ?_)
  · refine TX_ite (fun e2 => ?_) ?_
    · refine TX_catch zy.2.2.2.2 zE hZ C htab 1 e2 [] [(0, 12, 19, 13), (0, 12, 23, 15)] (0, 12, 15, 21) rfl (List.forall_mem_nil _) (by decide) (by decide) kl_7 (by decide +kernel) (fun q3 => ?_)
      refine T_astore (pc := 15) (L' := [(5, .ref q3), (0, .ref (adc 0)), (1, vi x1), (2, vi x2), (3, vi x3), (4, .ref (adm 11))]) C dL_tripMinute_15 (Nat.le_of_ble_eq_true rfl) rfl ?_
      refine T_iconst (pc := 17) C dL_tripMinute_17 ?_
      exact T_iret (pc := 18) ((r1.1, σ.2), 1) (fun h9 => h9) (rngL rfl) (nar_I _) (by decide) dL_tripMinute_18
    refine TX_ite (fun e4 => ?_) ?_
    · refine TX_catch zy.2.2.2.2 zE hZ C htab 2 e4 [(0, 12, 15, 21)] [(0, 12, 23, 15)] (0, 12, 19, 13) rfl (List.forall_mem_cons.mpr ⟨⟨by decide, 1, kl_7, by decide⟩, (List.forall_mem_nil _)⟩) (by decide) (by decide) kl_1 (by decide +kernel) (fun q5 => ?_)
      refine T_astore (pc := 19) (L' := [(5, .ref q5), (0, .ref (adc 0)), (1, vi x1), (2, vi x2), (3, vi x3), (4, .ref (adm 11))]) C dL_tripMinute_19 (Nat.le_of_ble_eq_true rfl) rfl ?_
      refine T_iconst (pc := 21) C dL_tripMinute_21 ?_
      exact T_iret (pc := 22) ((r1.1, σ.2), 2) (fun h9 => h9) (rngL rfl) (nar_I _) (by decide) dL_tripMinute_22
    refine TX_ite (fun e6 => ?_) ?_
    · refine TX_catch zy.2.2.2.2 zE hZ C htab 3 e6 [(0, 12, 15, 21), (0, 12, 19, 13)] [] (0, 12, 23, 15) rfl (List.forall_mem_cons.mpr ⟨⟨by decide, 1, kl_7, by decide⟩, (List.forall_mem_cons.mpr ⟨⟨by decide, 2, kl_1, by decide⟩, (List.forall_mem_nil _)⟩)⟩) (by decide) (by decide) kl_2 (by decide +kernel) (fun q7 => ?_)
      refine T_astore (pc := 23) (L' := [(5, .ref q7), (0, .ref (adc 0)), (1, vi x1), (2, vi x2), (3, vi x3), (4, .ref (adm 11))]) C dL_tripMinute_23 (Nat.le_of_ble_eq_true rfl) rfl ?_
      refine T_iconst (pc := 25) C dL_tripMinute_25 ?_
      exact T_iret (pc := 26) ((r1.1, σ.2), 3) (fun h9 => h9) (rngL rfl) (nar_I _) (by decide) dL_tripMinute_26
    exact TX_none
  · refine T_i2l (pc := 10) C hr1.1 dL_tripMinute_10 ?_
    refine T_last (pc := 11) C hr1.1 dL_tripMinute_11 ?_
    refine T_goto (pc := 12) C 27 dL_tripMinute_12 rfl ?_
    refine T_iconst (pc := 27) C dL_tripMinute_27 ?_
    exact T_iret (pc := 28) (((r1.1, σ.2).1, (r1.1, σ.2).2.1, r1.2.2, (r1.1, σ.2).2.2.2), 0) (fun h9 => h9) (rngL rfl) (nar_I _) (by decide) dL_tripMinute_28
abbrev rm_L_nextTrip : Room := ⟨8, 1, 6, 125⟩
theorem cm_L_nextTrip : cmL yL_nextTrip cL_nextTrip 6 [(0, 12, 15, 21), (0, 12, 19, 13), (0, 12, 23, 15)] 5 := ⟨kl_70, kl_4, ⟨by decide +kernel, by decide +kernel, by decide +kernel⟩, kl_71⟩
def f_L_nextTrip (N : Nat) (σ : SL) (x1 : Int) (x2 : Int) (x3 : Int) : Option (SL × Int) :=
  (f_X12_nextTrip σ.1 x1 x2 x3).bind fun r1 => if r1.2.1 = 0 then some (((r1.1, σ.2).1, (r1.1, σ.2).2.1, r1.2.2, (r1.1, σ.2).2.2.2), 0) else (if r1.2.1 = 1 then some ((r1.1, σ.2), 1) else (if r1.2.1 = 2 then some ((r1.1, σ.2), 2) else (if r1.2.1 = 3 then some ((r1.1, σ.2), 3) else none)))
theorem ct_L_nextTrip {l : Launch} {cy : Nat → ClassId} {adc adm : Nat → Nat} {E : Nat → Nat → Nat} {G : va_G} {Z : vZ} {sa : Nat → Nat} (zk : Zk Z E) (zy : Zy Z E sa) (zs : ZS Z E) (zE : ZE Z) (hst : l.stackTraces = false) (N : Nat) (σ : SL) (x1 : Int) (x2 : Int) (x3 : Int) (h1 : rng x1) (h2 : rng x2) (h3 : rng x3) (hw : wfL σ) (o : SL × Int) (h : f_L_nextTrip N σ x1 x2 x3 = some o) : ClI Z l yL_nextTrip cL_nextTrip 6 [(0, 12, 15, 21), (0, 12, 19, 13), (0, 12, 23, 15)] rm_L_nextTrip cy adc adm E G [.ref (adc 0), vi x1, vi x2, vi x3, .ref (adm 11)] σ o.1 o.2 := by
  refine clI_of (by decide) (Nat.le_of_ble_eq_true rfl) hw o h (fun X A Q hZ hX htab C => ?_)
  replace hst : X.2.1.stackTraces = false := by rw [hX]; exact hst
  replace C : Cx X (YL cy adc adm E G A 6 Q) cL_nextTrip RL (some .int) rm_L_nextTrip (tyL cy) := C
  replace hZ : Zx Z X (YL cy adc adm E G A 6 Q) := hZ
  show T X (YL cy adc adm E G A 6 Q) (fun w => EndI X (YL cy adc adm E G A 6 Q) cL_nextTrip rm_L_nextTrip .int w) 0 0 0 [(0, .ref (adc 0)), (1, vi x1), (2, vi x2), (3, vi x3), (4, .ref (adm 11))] [] σ (f_L_nextTrip N σ x1 x2 x3)
  unfold f_L_nextTrip
  refine T_aload (pc := 0) C dL_nextTrip_0 4 rfl ?_
  refine T_iconst (pc := 2) C dL_nextTrip_2 ?_
  refine T_aload_n (pc := 3) C dL_nextTrip_3 rfl 0 rfl ?_
  refine T_iload_n (pc := 4) C dL_nextTrip_4 rfl 1 rfl ?_
  refine T_iload_n (pc := 5) C dL_nextTrip_5 rfl 2 rfl ?_
  refine T_iload_n (pc := 6) C dL_nextTrip_6 rfl 3 rfl ?_
  refine T_lxi (pc := 7) zk.1 hZ C [vi x1, vi x2, vi x3] [vi 0, .ref (adm 11)] (fun o h9 hw => ct_X12_nextTrip zk zy hst σ.1 x1 x2 x3 h1 h2 h3 hw o h9) kl_69 cm_X12_nextTrip (rcc (rfl : kd 0 = 12) (by decide) (fun _ => rfl) rfl) rfl rfl (Nat.le_of_ble_eq_true rfl) (by decide) (a' := 1) (b' := 6) ⟨rfl, rfl⟩ dL_nextTrip_7 (fun r1 => ?_) (fun r1 hr1 => ?_)
  · refine TX_ite (fun e2 => ?_) ?_
    · refine TX_catch zy.2.2.2.2 zE hZ C htab 1 e2 [] [(0, 12, 19, 13), (0, 12, 23, 15)] (0, 12, 15, 21) rfl (List.forall_mem_nil _) (by decide) (by decide) kl_7 (by decide +kernel) (fun q3 => ?_)
      refine T_astore (pc := 15) (L' := [(5, .ref q3), (0, .ref (adc 0)), (1, vi x1), (2, vi x2), (3, vi x3), (4, .ref (adm 11))]) C dL_nextTrip_15 (Nat.le_of_ble_eq_true rfl) rfl ?_
      refine T_iconst (pc := 17) C dL_nextTrip_17 ?_
      exact T_iret (pc := 18) ((r1.1, σ.2), 1) (fun h9 => h9) (rngL rfl) (nar_I _) (by decide) dL_nextTrip_18
    refine TX_ite (fun e4 => ?_) ?_
    · refine TX_catch zy.2.2.2.2 zE hZ C htab 2 e4 [(0, 12, 15, 21)] [(0, 12, 23, 15)] (0, 12, 19, 13) rfl (List.forall_mem_cons.mpr ⟨⟨by decide, 1, kl_7, by decide⟩, (List.forall_mem_nil _)⟩) (by decide) (by decide) kl_1 (by decide +kernel) (fun q5 => ?_)
      refine T_astore (pc := 19) (L' := [(5, .ref q5), (0, .ref (adc 0)), (1, vi x1), (2, vi x2), (3, vi x3), (4, .ref (adm 11))]) C dL_nextTrip_19 (Nat.le_of_ble_eq_true rfl) rfl ?_
      refine T_iconst (pc := 21) C dL_nextTrip_21 ?_
      exact T_iret (pc := 22) ((r1.1, σ.2), 2) (fun h9 => h9) (rngL rfl) (nar_I _) (by decide) dL_nextTrip_22
    refine TX_ite (fun e6 => ?_) ?_
    · refine TX_catch zy.2.2.2.2 zE hZ C htab 3 e6 [(0, 12, 15, 21), (0, 12, 19, 13)] [] (0, 12, 23, 15) rfl (List.forall_mem_cons.mpr ⟨⟨by decide, 1, kl_7, by decide⟩, (List.forall_mem_cons.mpr ⟨⟨by decide, 2, kl_1, by decide⟩, (List.forall_mem_nil _)⟩)⟩) (by decide) (by decide) kl_2 (by decide +kernel) (fun q7 => ?_)
      refine T_astore (pc := 23) (L' := [(5, .ref q7), (0, .ref (adc 0)), (1, vi x1), (2, vi x2), (3, vi x3), (4, .ref (adm 11))]) C dL_nextTrip_23 (Nat.le_of_ble_eq_true rfl) rfl ?_
      refine T_iconst (pc := 25) C dL_nextTrip_25 ?_
      exact T_iret (pc := 26) ((r1.1, σ.2), 3) (fun h9 => h9) (rngL rfl) (nar_I _) (by decide) dL_nextTrip_26
    exact TX_none
  · refine T_i2l (pc := 10) C hr1.1 dL_nextTrip_10 ?_
    refine T_last (pc := 11) C hr1.1 dL_nextTrip_11 ?_
    refine T_goto (pc := 12) C 27 dL_nextTrip_12 rfl ?_
    refine T_iconst (pc := 27) C dL_nextTrip_27 ?_
    exact T_iret (pc := 28) (((r1.1, σ.2).1, (r1.1, σ.2).2.1, r1.2.2, (r1.1, σ.2).2.2.2), 0) (fun h9 => h9) (rngL rfl) (nar_I _) (by decide) dL_nextTrip_28
abbrev rm_L_nextTripBySearch : Room := ⟨8, 1, 6, 125⟩
theorem cm_L_nextTripBySearch : cmL yL_nextTripBySearch cL_nextTripBySearch 6 [(0, 12, 15, 21), (0, 12, 19, 13), (0, 12, 23, 15)] 5 := ⟨kl_73, kl_4, ⟨by decide +kernel, by decide +kernel, by decide +kernel⟩, kl_74⟩
def f_L_nextTripBySearch (N : Nat) (σ : SL) (x1 : Int) (x2 : Int) (x3 : Int) : Option (SL × Int) :=
  (f_X12_nextTripBySearch N σ.1 x1 x2 x3).bind fun r1 => if r1.2.1 = 0 then some (((r1.1, σ.2).1, (r1.1, σ.2).2.1, r1.2.2, (r1.1, σ.2).2.2.2), 0) else (if r1.2.1 = 1 then some ((r1.1, σ.2), 1) else (if r1.2.1 = 2 then some ((r1.1, σ.2), 2) else (if r1.2.1 = 3 then some ((r1.1, σ.2), 3) else none)))
theorem ct_L_nextTripBySearch {l : Launch} {cy : Nat → ClassId} {adc adm : Nat → Nat} {E : Nat → Nat → Nat} {G : va_G} {Z : vZ} {sa : Nat → Nat} (zk : Zk Z E) (zy : Zy Z E sa) (zs : ZS Z E) (zE : ZE Z) (hst : l.stackTraces = false) (N : Nat) (σ : SL) (x1 : Int) (x2 : Int) (x3 : Int) (h1 : rng x1) (h2 : rng x2) (h3 : rng x3) (hw : wfL σ) (o : SL × Int) (h : f_L_nextTripBySearch N σ x1 x2 x3 = some o) : ClI Z l yL_nextTripBySearch cL_nextTripBySearch 6 [(0, 12, 15, 21), (0, 12, 19, 13), (0, 12, 23, 15)] rm_L_nextTripBySearch cy adc adm E G [.ref (adc 0), vi x1, vi x2, vi x3, .ref (adm 11)] σ o.1 o.2 := by
  refine clI_of (by decide) (Nat.le_of_ble_eq_true rfl) hw o h (fun X A Q hZ hX htab C => ?_)
  replace hst : X.2.1.stackTraces = false := by rw [hX]; exact hst
  replace C : Cx X (YL cy adc adm E G A 6 Q) cL_nextTripBySearch RL (some .int) rm_L_nextTripBySearch (tyL cy) := C
  replace hZ : Zx Z X (YL cy adc adm E G A 6 Q) := hZ
  show T X (YL cy adc adm E G A 6 Q) (fun w => EndI X (YL cy adc adm E G A 6 Q) cL_nextTripBySearch rm_L_nextTripBySearch .int w) 0 0 0 [(0, .ref (adc 0)), (1, vi x1), (2, vi x2), (3, vi x3), (4, .ref (adm 11))] [] σ (f_L_nextTripBySearch N σ x1 x2 x3)
  unfold f_L_nextTripBySearch
  refine T_aload (pc := 0) C dL_nextTripBySearch_0 4 rfl ?_
  refine T_iconst (pc := 2) C dL_nextTripBySearch_2 ?_
  refine T_aload_n (pc := 3) C dL_nextTripBySearch_3 rfl 0 rfl ?_
  refine T_iload_n (pc := 4) C dL_nextTripBySearch_4 rfl 1 rfl ?_
  refine T_iload_n (pc := 5) C dL_nextTripBySearch_5 rfl 2 rfl ?_
  refine T_iload_n (pc := 6) C dL_nextTripBySearch_6 rfl 3 rfl ?_
  refine T_lxi (pc := 7) zk.1 hZ C [vi x1, vi x2, vi x3] [vi 0, .ref (adm 11)] (fun o h9 hw => ct_X12_nextTripBySearch zk zy hst N σ.1 x1 x2 x3 h1 h2 h3 hw o h9) kl_72 cm_X12_nextTripBySearch (rcc (rfl : kd 0 = 12) (by decide) (fun _ => rfl) rfl) rfl rfl (Nat.le_of_ble_eq_true rfl) (by decide) (a' := 1) (b' := 6) ⟨rfl, rfl⟩ dL_nextTripBySearch_7 (fun r1 => ?_) (fun r1 hr1 => ?_)
  · refine TX_ite (fun e2 => ?_) ?_
    · refine TX_catch zy.2.2.2.2 zE hZ C htab 1 e2 [] [(0, 12, 19, 13), (0, 12, 23, 15)] (0, 12, 15, 21) rfl (List.forall_mem_nil _) (by decide) (by decide) kl_7 (by decide +kernel) (fun q3 => ?_)
      refine T_astore (pc := 15) (L' := [(5, .ref q3), (0, .ref (adc 0)), (1, vi x1), (2, vi x2), (3, vi x3), (4, .ref (adm 11))]) C dL_nextTripBySearch_15 (Nat.le_of_ble_eq_true rfl) rfl ?_
      refine T_iconst (pc := 17) C dL_nextTripBySearch_17 ?_
      exact T_iret (pc := 18) ((r1.1, σ.2), 1) (fun h9 => h9) (rngL rfl) (nar_I _) (by decide) dL_nextTripBySearch_18
    refine TX_ite (fun e4 => ?_) ?_
    · refine TX_catch zy.2.2.2.2 zE hZ C htab 2 e4 [(0, 12, 15, 21)] [(0, 12, 23, 15)] (0, 12, 19, 13) rfl (List.forall_mem_cons.mpr ⟨⟨by decide, 1, kl_7, by decide⟩, (List.forall_mem_nil _)⟩) (by decide) (by decide) kl_1 (by decide +kernel) (fun q5 => ?_)
      refine T_astore (pc := 19) (L' := [(5, .ref q5), (0, .ref (adc 0)), (1, vi x1), (2, vi x2), (3, vi x3), (4, .ref (adm 11))]) C dL_nextTripBySearch_19 (Nat.le_of_ble_eq_true rfl) rfl ?_
      refine T_iconst (pc := 21) C dL_nextTripBySearch_21 ?_
      exact T_iret (pc := 22) ((r1.1, σ.2), 2) (fun h9 => h9) (rngL rfl) (nar_I _) (by decide) dL_nextTripBySearch_22
    refine TX_ite (fun e6 => ?_) ?_
    · refine TX_catch zy.2.2.2.2 zE hZ C htab 3 e6 [(0, 12, 15, 21), (0, 12, 19, 13)] [] (0, 12, 23, 15) rfl (List.forall_mem_cons.mpr ⟨⟨by decide, 1, kl_7, by decide⟩, (List.forall_mem_cons.mpr ⟨⟨by decide, 2, kl_1, by decide⟩, (List.forall_mem_nil _)⟩)⟩) (by decide) (by decide) kl_2 (by decide +kernel) (fun q7 => ?_)
      refine T_astore (pc := 23) (L' := [(5, .ref q7), (0, .ref (adc 0)), (1, vi x1), (2, vi x2), (3, vi x3), (4, .ref (adm 11))]) C dL_nextTripBySearch_23 (Nat.le_of_ble_eq_true rfl) rfl ?_
      refine T_iconst (pc := 25) C dL_nextTripBySearch_25 ?_
      exact T_iret (pc := 26) ((r1.1, σ.2), 3) (fun h9 => h9) (rngL rfl) (nar_I _) (by decide) dL_nextTripBySearch_26
    exact TX_none
  · refine T_i2l (pc := 10) C hr1.1 dL_nextTripBySearch_10 ?_
    refine T_last (pc := 11) C hr1.1 dL_nextTripBySearch_11 ?_
    refine T_goto (pc := 12) C 27 dL_nextTripBySearch_12 rfl ?_
    refine T_iconst (pc := 27) C dL_nextTripBySearch_27 ?_
    exact T_iret (pc := 28) (((r1.1, σ.2).1, (r1.1, σ.2).2.1, r1.2.2, (r1.1, σ.2).2.2.2), 0) (fun h9 => h9) (rngL rfl) (nar_I _) (by decide) dL_nextTripBySearch_28
abbrev rm_L_earliestArrival : Room := ⟨8, 2, 12, 149⟩
theorem cm_L_earliestArrival : cmL yL_earliestArrival cL_earliestArrival 6 [(0, 12, 15, 21), (0, 12, 19, 13), (0, 12, 23, 27)] 5 := ⟨kl_76, kl_4, ⟨by decide +kernel, by decide +kernel, by decide +kernel⟩, kl_77⟩
def f_L_earliestArrival (N : Nat) (σ : SL) (x1 : Int) (x2 : Int) (x3 : Int) : Option (SL × Int) :=
  (f_X12_earliestArrival N σ.1 x1 x2 x3).bind fun r1 => if r1.2.1 = 0 then some (((r1.1, σ.2).1, (r1.1, σ.2).2.1, r1.2.2, (r1.1, σ.2).2.2.2), 0) else (if r1.2.1 = 1 then some ((r1.1, σ.2), 1) else (if r1.2.1 = 2 then some ((r1.1, σ.2), 2) else (if r1.2.1 = 4 then some ((r1.1, σ.2), 3) else none)))
theorem ct_L_earliestArrival {l : Launch} {cy : Nat → ClassId} {adc adm : Nat → Nat} {E : Nat → Nat → Nat} {G : va_G} {Z : vZ} {sa : Nat → Nat} (zk : Zk Z E) (zy : Zy Z E sa) (zs : ZS Z E) (zE : ZE Z) (hst : l.stackTraces = false) (N : Nat) (σ : SL) (x1 : Int) (x2 : Int) (x3 : Int) (h1 : rng x1) (h2 : rng x2) (h3 : rng x3) (hw : wfL σ) (o : SL × Int) (h : f_L_earliestArrival N σ x1 x2 x3 = some o) : ClI Z l yL_earliestArrival cL_earliestArrival 6 [(0, 12, 15, 21), (0, 12, 19, 13), (0, 12, 23, 27)] rm_L_earliestArrival cy adc adm E G [.ref (adc 0), vi x1, vi x2, vi x3, .ref (adm 11)] σ o.1 o.2 := by
  refine clI_of (by decide) (Nat.le_of_ble_eq_true rfl) hw o h (fun X A Q hZ hX htab C => ?_)
  replace hst : X.2.1.stackTraces = false := by rw [hX]; exact hst
  replace C : Cx X (YL cy adc adm E G A 6 Q) cL_earliestArrival RL (some .int) rm_L_earliestArrival (tyL cy) := C
  replace hZ : Zx Z X (YL cy adc adm E G A 6 Q) := hZ
  show T X (YL cy adc adm E G A 6 Q) (fun w => EndI X (YL cy adc adm E G A 6 Q) cL_earliestArrival rm_L_earliestArrival .int w) 0 0 0 [(0, .ref (adc 0)), (1, vi x1), (2, vi x2), (3, vi x3), (4, .ref (adm 11))] [] σ (f_L_earliestArrival N σ x1 x2 x3)
  unfold f_L_earliestArrival
  refine T_aload (pc := 0) C dL_earliestArrival_0 4 rfl ?_
  refine T_iconst (pc := 2) C dL_earliestArrival_2 ?_
  refine T_aload_n (pc := 3) C dL_earliestArrival_3 rfl 0 rfl ?_
  refine T_iload_n (pc := 4) C dL_earliestArrival_4 rfl 1 rfl ?_
  refine T_iload_n (pc := 5) C dL_earliestArrival_5 rfl 2 rfl ?_
  refine T_iload_n (pc := 6) C dL_earliestArrival_6 rfl 3 rfl ?_
  refine T_lxi (pc := 7) zk.1 hZ C [vi x1, vi x2, vi x3] [vi 0, .ref (adm 11)] (fun o h9 hw => ct_X12_earliestArrival zk zy hst N σ.1 x1 x2 x3 h1 h2 h3 hw o h9) kl_75 cm_X12_earliestArrival (rcc (rfl : kd 0 = 12) (by decide) (fun _ => rfl) rfl) rfl rfl (Nat.le_of_ble_eq_true rfl) (by decide) (a' := 2) (b' := 12) ⟨rfl, rfl⟩ dL_earliestArrival_7 (fun r1 => ?_) (fun r1 hr1 => ?_)
  · refine TX_ite (fun e2 => ?_) ?_
    · refine TX_catch zy.2.2.2.2 zE hZ C htab 1 e2 [] [(0, 12, 19, 13), (0, 12, 23, 27)] (0, 12, 15, 21) rfl (List.forall_mem_nil _) (by decide) (by decide) kl_7 (by decide +kernel) (fun q3 => ?_)
      refine T_astore (pc := 15) (L' := [(5, .ref q3), (0, .ref (adc 0)), (1, vi x1), (2, vi x2), (3, vi x3), (4, .ref (adm 11))]) C dL_earliestArrival_15 (Nat.le_of_ble_eq_true rfl) rfl ?_
      refine T_iconst (pc := 17) C dL_earliestArrival_17 ?_
      exact T_iret (pc := 18) ((r1.1, σ.2), 1) (fun h9 => h9) (rngL rfl) (nar_I _) (by decide) dL_earliestArrival_18
    refine TX_ite (fun e4 => ?_) ?_
    · refine TX_catch zy.2.2.2.2 zE hZ C htab 2 e4 [(0, 12, 15, 21)] [(0, 12, 23, 27)] (0, 12, 19, 13) rfl (List.forall_mem_cons.mpr ⟨⟨by decide, 1, kl_7, by decide⟩, (List.forall_mem_nil _)⟩) (by decide) (by decide) kl_1 (by decide +kernel) (fun q5 => ?_)
      refine T_astore (pc := 19) (L' := [(5, .ref q5), (0, .ref (adc 0)), (1, vi x1), (2, vi x2), (3, vi x3), (4, .ref (adm 11))]) C dL_earliestArrival_19 (Nat.le_of_ble_eq_true rfl) rfl ?_
      refine T_iconst (pc := 21) C dL_earliestArrival_21 ?_
      exact T_iret (pc := 22) ((r1.1, σ.2), 2) (fun h9 => h9) (rngL rfl) (nar_I _) (by decide) dL_earliestArrival_22
    refine TX_ite (fun e6 => ?_) ?_
    · refine TX_catch zy.2.2.2.2 zE hZ C htab 4 e6 [(0, 12, 15, 21), (0, 12, 19, 13)] [] (0, 12, 23, 27) rfl (List.forall_mem_cons.mpr ⟨⟨by decide, 1, kl_7, by decide⟩, (List.forall_mem_cons.mpr ⟨⟨by decide, 2, kl_1, by decide⟩, (List.forall_mem_nil _)⟩)⟩) (by decide) (by decide) kl_11 (by decide +kernel) (fun q7 => ?_)
      refine T_astore (pc := 23) (L' := [(5, .ref q7), (0, .ref (adc 0)), (1, vi x1), (2, vi x2), (3, vi x3), (4, .ref (adm 11))]) C dL_earliestArrival_23 (Nat.le_of_ble_eq_true rfl) rfl ?_
      refine T_iconst (pc := 25) C dL_earliestArrival_25 ?_
      exact T_iret (pc := 26) ((r1.1, σ.2), 3) (fun h9 => h9) (rngL rfl) (nar_I _) (by decide) dL_earliestArrival_26
    exact TX_none
  · refine T_i2l (pc := 10) C hr1.1 dL_earliestArrival_10 ?_
    refine T_last (pc := 11) C hr1.1 dL_earliestArrival_11 ?_
    refine T_goto (pc := 12) C 27 dL_earliestArrival_12 rfl ?_
    refine T_iconst (pc := 27) C dL_earliestArrival_27 ?_
    exact T_iret (pc := 28) (((r1.1, σ.2).1, (r1.1, σ.2).2.1, r1.2.2, (r1.1, σ.2).2.2.2), 0) (fun h9 => h9) (rngL rfl) (nar_I _) (by decide) dL_earliestArrival_28
abbrev rm_L_earliestArrivalByRounds : Room := ⟨8, 2, 12, 151⟩
theorem cm_L_earliestArrivalByRounds : cmL yL_earliestArrivalByRounds cL_earliestArrivalByRounds 6 [(0, 12, 15, 21), (0, 12, 19, 13), (0, 12, 23, 27)] 5 := ⟨kl_79, kl_4, ⟨by decide +kernel, by decide +kernel, by decide +kernel⟩, kl_80⟩
def f_L_earliestArrivalByRounds (N : Nat) (σ : SL) (x1 : Int) (x2 : Int) (x3 : Int) : Option (SL × Int) :=
  (f_X12_earliestArrivalByRounds N σ.1 x1 x2 x3).bind fun r1 => if r1.2.1 = 0 then some (((r1.1, σ.2).1, (r1.1, σ.2).2.1, r1.2.2, (r1.1, σ.2).2.2.2), 0) else (if r1.2.1 = 1 then some ((r1.1, σ.2), 1) else (if r1.2.1 = 2 then some ((r1.1, σ.2), 2) else (if r1.2.1 = 4 then some ((r1.1, σ.2), 3) else none)))
theorem ct_L_earliestArrivalByRounds {l : Launch} {cy : Nat → ClassId} {adc adm : Nat → Nat} {E : Nat → Nat → Nat} {G : va_G} {Z : vZ} {sa : Nat → Nat} (zk : Zk Z E) (zy : Zy Z E sa) (zs : ZS Z E) (zE : ZE Z) (hst : l.stackTraces = false) (N : Nat) (σ : SL) (x1 : Int) (x2 : Int) (x3 : Int) (h1 : rng x1) (h2 : rng x2) (h3 : rng x3) (hw : wfL σ) (o : SL × Int) (h : f_L_earliestArrivalByRounds N σ x1 x2 x3 = some o) : ClI Z l yL_earliestArrivalByRounds cL_earliestArrivalByRounds 6 [(0, 12, 15, 21), (0, 12, 19, 13), (0, 12, 23, 27)] rm_L_earliestArrivalByRounds cy adc adm E G [.ref (adc 0), vi x1, vi x2, vi x3, .ref (adm 11)] σ o.1 o.2 := by
  refine clI_of (by decide) (Nat.le_of_ble_eq_true rfl) hw o h (fun X A Q hZ hX htab C => ?_)
  replace hst : X.2.1.stackTraces = false := by rw [hX]; exact hst
  replace C : Cx X (YL cy adc adm E G A 6 Q) cL_earliestArrivalByRounds RL (some .int) rm_L_earliestArrivalByRounds (tyL cy) := C
  replace hZ : Zx Z X (YL cy adc adm E G A 6 Q) := hZ
  show T X (YL cy adc adm E G A 6 Q) (fun w => EndI X (YL cy adc adm E G A 6 Q) cL_earliestArrivalByRounds rm_L_earliestArrivalByRounds .int w) 0 0 0 [(0, .ref (adc 0)), (1, vi x1), (2, vi x2), (3, vi x3), (4, .ref (adm 11))] [] σ (f_L_earliestArrivalByRounds N σ x1 x2 x3)
  unfold f_L_earliestArrivalByRounds
  refine T_aload (pc := 0) C dL_earliestArrivalByRounds_0 4 rfl ?_
  refine T_iconst (pc := 2) C dL_earliestArrivalByRounds_2 ?_
  refine T_aload_n (pc := 3) C dL_earliestArrivalByRounds_3 rfl 0 rfl ?_
  refine T_iload_n (pc := 4) C dL_earliestArrivalByRounds_4 rfl 1 rfl ?_
  refine T_iload_n (pc := 5) C dL_earliestArrivalByRounds_5 rfl 2 rfl ?_
  refine T_iload_n (pc := 6) C dL_earliestArrivalByRounds_6 rfl 3 rfl ?_
  refine T_lxi (pc := 7) zk.1 hZ C [vi x1, vi x2, vi x3] [vi 0, .ref (adm 11)] (fun o h9 hw => ct_X12_earliestArrivalByRounds zk zy hst N σ.1 x1 x2 x3 h1 h2 h3 hw o h9) kl_78 cm_X12_earliestArrivalByRounds (rcc (rfl : kd 0 = 12) (by decide) (fun _ => rfl) rfl) rfl rfl (Nat.le_of_ble_eq_true rfl) (by decide) (a' := 2) (b' := 12) ⟨rfl, rfl⟩ dL_earliestArrivalByRounds_7 (fun r1 => ?_) (fun r1 hr1 => ?_)
  · refine TX_ite (fun e2 => ?_) ?_
    · refine TX_catch zy.2.2.2.2 zE hZ C htab 1 e2 [] [(0, 12, 19, 13), (0, 12, 23, 27)] (0, 12, 15, 21) rfl (List.forall_mem_nil _) (by decide) (by decide) kl_7 (by decide +kernel) (fun q3 => ?_)
      refine T_astore (pc := 15) (L' := [(5, .ref q3), (0, .ref (adc 0)), (1, vi x1), (2, vi x2), (3, vi x3), (4, .ref (adm 11))]) C dL_earliestArrivalByRounds_15 (Nat.le_of_ble_eq_true rfl) rfl ?_
      refine T_iconst (pc := 17) C dL_earliestArrivalByRounds_17 ?_
      exact T_iret (pc := 18) ((r1.1, σ.2), 1) (fun h9 => h9) (rngL rfl) (nar_I _) (by decide) dL_earliestArrivalByRounds_18
    refine TX_ite (fun e4 => ?_) ?_
    · refine TX_catch zy.2.2.2.2 zE hZ C htab 2 e4 [(0, 12, 15, 21)] [(0, 12, 23, 27)] (0, 12, 19, 13) rfl (List.forall_mem_cons.mpr ⟨⟨by decide, 1, kl_7, by decide⟩, (List.forall_mem_nil _)⟩) (by decide) (by decide) kl_1 (by decide +kernel) (fun q5 => ?_)
      refine T_astore (pc := 19) (L' := [(5, .ref q5), (0, .ref (adc 0)), (1, vi x1), (2, vi x2), (3, vi x3), (4, .ref (adm 11))]) C dL_earliestArrivalByRounds_19 (Nat.le_of_ble_eq_true rfl) rfl ?_
      refine T_iconst (pc := 21) C dL_earliestArrivalByRounds_21 ?_
      exact T_iret (pc := 22) ((r1.1, σ.2), 2) (fun h9 => h9) (rngL rfl) (nar_I _) (by decide) dL_earliestArrivalByRounds_22
    refine TX_ite (fun e6 => ?_) ?_
    · refine TX_catch zy.2.2.2.2 zE hZ C htab 4 e6 [(0, 12, 15, 21), (0, 12, 19, 13)] [] (0, 12, 23, 27) rfl (List.forall_mem_cons.mpr ⟨⟨by decide, 1, kl_7, by decide⟩, (List.forall_mem_cons.mpr ⟨⟨by decide, 2, kl_1, by decide⟩, (List.forall_mem_nil _)⟩)⟩) (by decide) (by decide) kl_11 (by decide +kernel) (fun q7 => ?_)
      refine T_astore (pc := 23) (L' := [(5, .ref q7), (0, .ref (adc 0)), (1, vi x1), (2, vi x2), (3, vi x3), (4, .ref (adm 11))]) C dL_earliestArrivalByRounds_23 (Nat.le_of_ble_eq_true rfl) rfl ?_
      refine T_iconst (pc := 25) C dL_earliestArrivalByRounds_25 ?_
      exact T_iret (pc := 26) ((r1.1, σ.2), 3) (fun h9 => h9) (rngL rfl) (nar_I _) (by decide) dL_earliestArrivalByRounds_26
    exact TX_none
  · refine T_i2l (pc := 10) C hr1.1 dL_earliestArrivalByRounds_10 ?_
    refine T_last (pc := 11) C hr1.1 dL_earliestArrivalByRounds_11 ?_
    refine T_goto (pc := 12) C 27 dL_earliestArrivalByRounds_12 rfl ?_
    refine T_iconst (pc := 27) C dL_earliestArrivalByRounds_27 ?_
    exact T_iret (pc := 28) (((r1.1, σ.2).1, (r1.1, σ.2).2.1, r1.2.2, (r1.1, σ.2).2.2.2), 0) (fun h9 => h9) (rngL rfl) (nar_I _) (by decide) dL_earliestArrivalByRounds_28
abbrev rm_L_fewestBoardings : Room := ⟨8, 2, 12, 124⟩
theorem cm_L_fewestBoardings : cmL yL_fewestBoardings cL_fewestBoardings 5 [(0, 10, 13, 21), (0, 10, 17, 27)] 4 := ⟨kl_82, kl_4, ⟨by decide +kernel, by decide +kernel, by decide +kernel⟩, kl_83⟩
def f_L_fewestBoardings (N : Nat) (σ : SL) (x1 : Int) (x2 : Int) : Option (SL × Int) :=
  (f_X12_fewestBoardings N σ.1 x1 x2).bind fun r1 => if r1.2.1 = 0 then some (((r1.1, σ.2).1, (r1.1, σ.2).2.1, r1.2.2, (r1.1, σ.2).2.2.2), 0) else (if r1.2.1 = 1 then some ((r1.1, σ.2), 1) else (if r1.2.1 = 4 then some ((r1.1, σ.2), 2) else none))
theorem ct_L_fewestBoardings {l : Launch} {cy : Nat → ClassId} {adc adm : Nat → Nat} {E : Nat → Nat → Nat} {G : va_G} {Z : vZ} {sa : Nat → Nat} (zk : Zk Z E) (zy : Zy Z E sa) (zs : ZS Z E) (zE : ZE Z) (hst : l.stackTraces = false) (N : Nat) (σ : SL) (x1 : Int) (x2 : Int) (h1 : rng x1) (h2 : rng x2) (hw : wfL σ) (o : SL × Int) (h : f_L_fewestBoardings N σ x1 x2 = some o) : ClI Z l yL_fewestBoardings cL_fewestBoardings 5 [(0, 10, 13, 21), (0, 10, 17, 27)] rm_L_fewestBoardings cy adc adm E G [.ref (adc 0), vi x1, vi x2, .ref (adm 11)] σ o.1 o.2 := by
  refine clI_of (by decide) (Nat.le_of_ble_eq_true rfl) hw o h (fun X A Q hZ hX htab C => ?_)
  replace hst : X.2.1.stackTraces = false := by rw [hX]; exact hst
  replace C : Cx X (YL cy adc adm E G A 5 Q) cL_fewestBoardings RL (some .int) rm_L_fewestBoardings (tyL cy) := C
  replace hZ : Zx Z X (YL cy adc adm E G A 5 Q) := hZ
  show T X (YL cy adc adm E G A 5 Q) (fun w => EndI X (YL cy adc adm E G A 5 Q) cL_fewestBoardings rm_L_fewestBoardings .int w) 0 0 0 [(0, .ref (adc 0)), (1, vi x1), (2, vi x2), (3, .ref (adm 11))] [] σ (f_L_fewestBoardings N σ x1 x2)
  unfold f_L_fewestBoardings
  refine T_aload_n (pc := 0) C dL_fewestBoardings_0 rfl 3 rfl ?_
  refine T_iconst (pc := 1) C dL_fewestBoardings_1 ?_
  refine T_aload_n (pc := 2) C dL_fewestBoardings_2 rfl 0 rfl ?_
  refine T_iload_n (pc := 3) C dL_fewestBoardings_3 rfl 1 rfl ?_
  refine T_iload_n (pc := 4) C dL_fewestBoardings_4 rfl 2 rfl ?_
  refine T_lxi (pc := 5) zk.1 hZ C [vi x1, vi x2] [vi 0, .ref (adm 11)] (fun o h9 hw => ct_X12_fewestBoardings zk zy hst N σ.1 x1 x2 h1 h2 hw o h9) kl_81 cm_X12_fewestBoardings (rcc (rfl : kd 0 = 12) (by decide) (fun _ => rfl) rfl) rfl rfl (Nat.le_of_ble_eq_true rfl) (by decide) (a' := 2) (b' := 12) ⟨rfl, rfl⟩ dL_fewestBoardings_5 (fun r1 => ?_) (fun r1 hr1 => ?_)
  · refine TX_ite (fun e2 => ?_) ?_
    · refine TX_catch zy.2.2.2.2 zE hZ C htab 1 e2 [] [(0, 10, 17, 27)] (0, 10, 13, 21) rfl (List.forall_mem_nil _) (by decide) (by decide) kl_7 (by decide +kernel) (fun q3 => ?_)
      refine T_astore (pc := 13) (L' := [(4, .ref q3), (0, .ref (adc 0)), (1, vi x1), (2, vi x2), (3, .ref (adm 11))]) C dL_fewestBoardings_13 (Nat.le_of_ble_eq_true rfl) rfl ?_
      refine T_iconst (pc := 15) C dL_fewestBoardings_15 ?_
      exact T_iret (pc := 16) ((r1.1, σ.2), 1) (fun h9 => h9) (rngL rfl) (nar_I _) (by decide) dL_fewestBoardings_16
    refine TX_ite (fun e4 => ?_) ?_
    · refine TX_catch zy.2.2.2.2 zE hZ C htab 4 e4 [(0, 10, 13, 21)] [] (0, 10, 17, 27) rfl (List.forall_mem_cons.mpr ⟨⟨by decide, 1, kl_7, by decide⟩, (List.forall_mem_nil _)⟩) (by decide) (by decide) kl_11 (by decide +kernel) (fun q5 => ?_)
      refine T_astore (pc := 17) (L' := [(4, .ref q5), (0, .ref (adc 0)), (1, vi x1), (2, vi x2), (3, .ref (adm 11))]) C dL_fewestBoardings_17 (Nat.le_of_ble_eq_true rfl) rfl ?_
      refine T_iconst (pc := 19) C dL_fewestBoardings_19 ?_
      exact T_iret (pc := 20) ((r1.1, σ.2), 2) (fun h9 => h9) (rngL rfl) (nar_I _) (by decide) dL_fewestBoardings_20
    exact TX_none
  · refine T_i2l (pc := 8) C hr1.1 dL_fewestBoardings_8 ?_
    refine T_last (pc := 9) C hr1.1 dL_fewestBoardings_9 ?_
    refine T_goto (pc := 10) C 21 dL_fewestBoardings_10 rfl ?_
    refine T_iconst (pc := 21) C dL_fewestBoardings_21 ?_
    exact T_iret (pc := 22) (((r1.1, σ.2).1, (r1.1, σ.2).2.1, r1.2.2, (r1.1, σ.2).2.2.2), 0) (fun h9 => h9) (rngL rfl) (nar_I _) (by decide) dL_fewestBoardings_22
abbrev rm_L_fewestBoardingsByTable : Room := ⟨8, 2, 12, 124⟩
theorem cm_L_fewestBoardingsByTable : cmL yL_fewestBoardingsByTable cL_fewestBoardingsByTable 5 [(0, 10, 13, 21), (0, 10, 17, 27)] 4 := ⟨kl_85, kl_4, ⟨by decide +kernel, by decide +kernel, by decide +kernel⟩, kl_86⟩
def f_L_fewestBoardingsByTable (N : Nat) (σ : SL) (x1 : Int) (x2 : Int) : Option (SL × Int) :=
  (f_X12_fewestBoardingsByTable N σ.1 x1 x2).bind fun r1 => if r1.2.1 = 0 then some (((r1.1, σ.2).1, (r1.1, σ.2).2.1, r1.2.2, (r1.1, σ.2).2.2.2), 0) else (if r1.2.1 = 1 then some ((r1.1, σ.2), 1) else (if r1.2.1 = 4 then some ((r1.1, σ.2), 2) else none))
theorem ct_L_fewestBoardingsByTable {l : Launch} {cy : Nat → ClassId} {adc adm : Nat → Nat} {E : Nat → Nat → Nat} {G : va_G} {Z : vZ} {sa : Nat → Nat} (zk : Zk Z E) (zy : Zy Z E sa) (zs : ZS Z E) (zE : ZE Z) (hst : l.stackTraces = false) (N : Nat) (σ : SL) (x1 : Int) (x2 : Int) (h1 : rng x1) (h2 : rng x2) (hw : wfL σ) (o : SL × Int) (h : f_L_fewestBoardingsByTable N σ x1 x2 = some o) : ClI Z l yL_fewestBoardingsByTable cL_fewestBoardingsByTable 5 [(0, 10, 13, 21), (0, 10, 17, 27)] rm_L_fewestBoardingsByTable cy adc adm E G [.ref (adc 0), vi x1, vi x2, .ref (adm 11)] σ o.1 o.2 := by
  refine clI_of (by decide) (Nat.le_of_ble_eq_true rfl) hw o h (fun X A Q hZ hX htab C => ?_)
  replace hst : X.2.1.stackTraces = false := by rw [hX]; exact hst
  replace C : Cx X (YL cy adc adm E G A 5 Q) cL_fewestBoardingsByTable RL (some .int) rm_L_fewestBoardingsByTable (tyL cy) := C
  replace hZ : Zx Z X (YL cy adc adm E G A 5 Q) := hZ
  show T X (YL cy adc adm E G A 5 Q) (fun w => EndI X (YL cy adc adm E G A 5 Q) cL_fewestBoardingsByTable rm_L_fewestBoardingsByTable .int w) 0 0 0 [(0, .ref (adc 0)), (1, vi x1), (2, vi x2), (3, .ref (adm 11))] [] σ (f_L_fewestBoardingsByTable N σ x1 x2)
  unfold f_L_fewestBoardingsByTable
  refine T_aload_n (pc := 0) C dL_fewestBoardingsByTable_0 rfl 3 rfl ?_
  refine T_iconst (pc := 1) C dL_fewestBoardingsByTable_1 ?_
  refine T_aload_n (pc := 2) C dL_fewestBoardingsByTable_2 rfl 0 rfl ?_
  refine T_iload_n (pc := 3) C dL_fewestBoardingsByTable_3 rfl 1 rfl ?_
  refine T_iload_n (pc := 4) C dL_fewestBoardingsByTable_4 rfl 2 rfl ?_
  refine T_lxi (pc := 5) zk.1 hZ C [vi x1, vi x2] [vi 0, .ref (adm 11)] (fun o h9 hw => ct_X12_fewestBoardingsByTable zk zy hst N σ.1 x1 x2 h1 h2 hw o h9) kl_84 cm_X12_fewestBoardingsByTable (rcc (rfl : kd 0 = 12) (by decide) (fun _ => rfl) rfl) rfl rfl (Nat.le_of_ble_eq_true rfl) (by decide) (a' := 2) (b' := 12) ⟨rfl, rfl⟩ dL_fewestBoardingsByTable_5 (fun r1 => ?_) (fun r1 hr1 => ?_)
  · refine TX_ite (fun e2 => ?_) ?_
    · refine TX_catch zy.2.2.2.2 zE hZ C htab 1 e2 [] [(0, 10, 17, 27)] (0, 10, 13, 21) rfl (List.forall_mem_nil _) (by decide) (by decide) kl_7 (by decide +kernel) (fun q3 => ?_)
      refine T_astore (pc := 13) (L' := [(4, .ref q3), (0, .ref (adc 0)), (1, vi x1), (2, vi x2), (3, .ref (adm 11))]) C dL_fewestBoardingsByTable_13 (Nat.le_of_ble_eq_true rfl) rfl ?_
      refine T_iconst (pc := 15) C dL_fewestBoardingsByTable_15 ?_
      exact T_iret (pc := 16) ((r1.1, σ.2), 1) (fun h9 => h9) (rngL rfl) (nar_I _) (by decide) dL_fewestBoardingsByTable_16
    refine TX_ite (fun e4 => ?_) ?_
    · refine TX_catch zy.2.2.2.2 zE hZ C htab 4 e4 [(0, 10, 13, 21)] [] (0, 10, 17, 27) rfl (List.forall_mem_cons.mpr ⟨⟨by decide, 1, kl_7, by decide⟩, (List.forall_mem_nil _)⟩) (by decide) (by decide) kl_11 (by decide +kernel) (fun q5 => ?_)
      refine T_astore (pc := 17) (L' := [(4, .ref q5), (0, .ref (adc 0)), (1, vi x1), (2, vi x2), (3, .ref (adm 11))]) C dL_fewestBoardingsByTable_17 (Nat.le_of_ble_eq_true rfl) rfl ?_
      refine T_iconst (pc := 19) C dL_fewestBoardingsByTable_19 ?_
      exact T_iret (pc := 20) ((r1.1, σ.2), 2) (fun h9 => h9) (rngL rfl) (nar_I _) (by decide) dL_fewestBoardingsByTable_20
    exact TX_none
  · refine T_i2l (pc := 8) C hr1.1 dL_fewestBoardingsByTable_8 ?_
    refine T_last (pc := 9) C hr1.1 dL_fewestBoardingsByTable_9 ?_
    refine T_goto (pc := 10) C 21 dL_fewestBoardingsByTable_10 rfl ?_
    refine T_iconst (pc := 21) C dL_fewestBoardingsByTable_21 ?_
    exact T_iret (pc := 22) (((r1.1, σ.2).1, (r1.1, σ.2).2.1, r1.2.2, (r1.1, σ.2).2.2.2), 0) (fun h9 => h9) (rngL rfl) (nar_I _) (by decide) dL_fewestBoardingsByTable_22
abbrev rm_L_flow : Room := ⟨8, 1, 6, 124⟩
theorem cm_L_flow : cmL yL_flow cL_flow 5 [(0, 10, 13, 21), (0, 10, 17, 13)] 4 := ⟨kl_88, kl_4, ⟨by decide +kernel, by decide +kernel, by decide +kernel⟩, kl_89⟩
def f_L_flow (N : Nat) (σ : SL) (x1 : Int) (x2 : Int) : Option (SL × Int) :=
  (f_X12_flow N σ.1 x1 x2).bind fun r1 => if r1.2.1 = 0 then some (((r1.1, σ.2).1, (r1.1, σ.2).2.1, r1.2.2, (r1.1, σ.2).2.2.2), 0) else (if r1.2.1 = 1 then some ((r1.1, σ.2), 1) else (if r1.2.1 = 2 then some ((r1.1, σ.2), 2) else none))
theorem ct_L_flow {l : Launch} {cy : Nat → ClassId} {adc adm : Nat → Nat} {E : Nat → Nat → Nat} {G : va_G} {Z : vZ} {sa : Nat → Nat} (zk : Zk Z E) (zy : Zy Z E sa) (zs : ZS Z E) (zE : ZE Z) (hst : l.stackTraces = false) (N : Nat) (σ : SL) (x1 : Int) (x2 : Int) (h1 : rng x1) (h2 : rng x2) (hw : wfL σ) (o : SL × Int) (h : f_L_flow N σ x1 x2 = some o) : ClI Z l yL_flow cL_flow 5 [(0, 10, 13, 21), (0, 10, 17, 13)] rm_L_flow cy adc adm E G [.ref (adc 0), vi x1, vi x2, .ref (adm 11)] σ o.1 o.2 := by
  refine clI_of (by decide) (Nat.le_of_ble_eq_true rfl) hw o h (fun X A Q hZ hX htab C => ?_)
  replace hst : X.2.1.stackTraces = false := by rw [hX]; exact hst
  replace C : Cx X (YL cy adc adm E G A 5 Q) cL_flow RL (some .int) rm_L_flow (tyL cy) := C
  replace hZ : Zx Z X (YL cy adc adm E G A 5 Q) := hZ
  show T X (YL cy adc adm E G A 5 Q) (fun w => EndI X (YL cy adc adm E G A 5 Q) cL_flow rm_L_flow .int w) 0 0 0 [(0, .ref (adc 0)), (1, vi x1), (2, vi x2), (3, .ref (adm 11))] [] σ (f_L_flow N σ x1 x2)
  unfold f_L_flow
  refine T_aload_n (pc := 0) C dL_flow_0 rfl 3 rfl ?_
  refine T_iconst (pc := 1) C dL_flow_1 ?_
  refine T_aload_n (pc := 2) C dL_flow_2 rfl 0 rfl ?_
  refine T_iload_n (pc := 3) C dL_flow_3 rfl 1 rfl ?_
  refine T_iload_n (pc := 4) C dL_flow_4 rfl 2 rfl ?_
  refine T_lxi (pc := 5) zk.1 hZ C [vi x1, vi x2] [vi 0, .ref (adm 11)] (fun o h9 hw => ct_X12_flow zk zy hst N σ.1 x1 x2 h1 h2 hw o h9) kl_87 cm_X12_flow (rcc (rfl : kd 0 = 12) (by decide) (fun _ => rfl) rfl) rfl rfl (Nat.le_of_ble_eq_true rfl) (by decide) (a' := 1) (b' := 6) ⟨rfl, rfl⟩ dL_flow_5 (fun r1 => ?_) (fun r1 hr1 => ?_)
  · refine TX_ite (fun e2 => ?_) ?_
    · refine TX_catch zy.2.2.2.2 zE hZ C htab 1 e2 [] [(0, 10, 17, 13)] (0, 10, 13, 21) rfl (List.forall_mem_nil _) (by decide) (by decide) kl_7 (by decide +kernel) (fun q3 => ?_)
      refine T_astore (pc := 13) (L' := [(4, .ref q3), (0, .ref (adc 0)), (1, vi x1), (2, vi x2), (3, .ref (adm 11))]) C dL_flow_13 (Nat.le_of_ble_eq_true rfl) rfl ?_
      refine T_iconst (pc := 15) C dL_flow_15 ?_
      exact T_iret (pc := 16) ((r1.1, σ.2), 1) (fun h9 => h9) (rngL rfl) (nar_I _) (by decide) dL_flow_16
    refine TX_ite (fun e4 => ?_) ?_
    · refine TX_catch zy.2.2.2.2 zE hZ C htab 2 e4 [(0, 10, 13, 21)] [] (0, 10, 17, 13) rfl (List.forall_mem_cons.mpr ⟨⟨by decide, 1, kl_7, by decide⟩, (List.forall_mem_nil _)⟩) (by decide) (by decide) kl_1 (by decide +kernel) (fun q5 => ?_)
      refine T_astore (pc := 17) (L' := [(4, .ref q5), (0, .ref (adc 0)), (1, vi x1), (2, vi x2), (3, .ref (adm 11))]) C dL_flow_17 (Nat.le_of_ble_eq_true rfl) rfl ?_
      refine T_iconst (pc := 19) C dL_flow_19 ?_
      exact T_iret (pc := 20) ((r1.1, σ.2), 2) (fun h9 => h9) (rngL rfl) (nar_I _) (by decide) dL_flow_20
    exact TX_none
  · refine T_i2l (pc := 8) C hr1.1 dL_flow_8 ?_
    refine T_last (pc := 9) C hr1.1 dL_flow_9 ?_
    refine T_goto (pc := 10) C 21 dL_flow_10 rfl ?_
    refine T_iconst (pc := 21) C dL_flow_21 ?_
    exact T_iret (pc := 22) (((r1.1, σ.2).1, (r1.1, σ.2).2.1, r1.2.2, (r1.1, σ.2).2.2.2), 0) (fun h9 => h9) (rngL rfl) (nar_I _) (by decide) dL_flow_22
abbrev rm_L_smallestCut : Room := ⟨8, 1, 6, 124⟩
theorem cm_L_smallestCut : cmL yL_smallestCut cL_smallestCut 5 [(0, 10, 13, 21), (0, 10, 17, 13)] 4 := ⟨kl_91, kl_4, ⟨by decide +kernel, by decide +kernel, by decide +kernel⟩, kl_92⟩
def f_L_smallestCut (N : Nat) (σ : SL) (x1 : Int) (x2 : Int) : Option (SL × Int) :=
  (f_X12_smallestCut N σ.1 x1 x2).bind fun r1 => if r1.2.1 = 0 then some (((r1.1, σ.2).1, (r1.1, σ.2).2.1, r1.2.2, (r1.1, σ.2).2.2.2), 0) else (if r1.2.1 = 1 then some ((r1.1, σ.2), 1) else (if r1.2.1 = 2 then some ((r1.1, σ.2), 2) else none))
theorem ct_L_smallestCut {l : Launch} {cy : Nat → ClassId} {adc adm : Nat → Nat} {E : Nat → Nat → Nat} {G : va_G} {Z : vZ} {sa : Nat → Nat} (zk : Zk Z E) (zy : Zy Z E sa) (zs : ZS Z E) (zE : ZE Z) (hst : l.stackTraces = false) (N : Nat) (σ : SL) (x1 : Int) (x2 : Int) (h1 : rng x1) (h2 : rng x2) (hw : wfL σ) (o : SL × Int) (h : f_L_smallestCut N σ x1 x2 = some o) : ClI Z l yL_smallestCut cL_smallestCut 5 [(0, 10, 13, 21), (0, 10, 17, 13)] rm_L_smallestCut cy adc adm E G [.ref (adc 0), vi x1, vi x2, .ref (adm 11)] σ o.1 o.2 := by
  refine clI_of (by decide) (Nat.le_of_ble_eq_true rfl) hw o h (fun X A Q hZ hX htab C => ?_)
  replace hst : X.2.1.stackTraces = false := by rw [hX]; exact hst
  replace C : Cx X (YL cy adc adm E G A 5 Q) cL_smallestCut RL (some .int) rm_L_smallestCut (tyL cy) := C
  replace hZ : Zx Z X (YL cy adc adm E G A 5 Q) := hZ
  show T X (YL cy adc adm E G A 5 Q) (fun w => EndI X (YL cy adc adm E G A 5 Q) cL_smallestCut rm_L_smallestCut .int w) 0 0 0 [(0, .ref (adc 0)), (1, vi x1), (2, vi x2), (3, .ref (adm 11))] [] σ (f_L_smallestCut N σ x1 x2)
  unfold f_L_smallestCut
  refine T_aload_n (pc := 0) C dL_smallestCut_0 rfl 3 rfl ?_
  refine T_iconst (pc := 1) C dL_smallestCut_1 ?_
  refine T_aload_n (pc := 2) C dL_smallestCut_2 rfl 0 rfl ?_
  refine T_iload_n (pc := 3) C dL_smallestCut_3 rfl 1 rfl ?_
  refine T_iload_n (pc := 4) C dL_smallestCut_4 rfl 2 rfl ?_
  refine T_lxi (pc := 5) zk.1 hZ C [vi x1, vi x2] [vi 0, .ref (adm 11)] (fun o h9 hw => ct_X12_smallestCut zk zy hst N σ.1 x1 x2 h1 h2 hw o h9) kl_90 cm_X12_smallestCut (rcc (rfl : kd 0 = 12) (by decide) (fun _ => rfl) rfl) rfl rfl (Nat.le_of_ble_eq_true rfl) (by decide) (a' := 1) (b' := 6) ⟨rfl, rfl⟩ dL_smallestCut_5 (fun r1 => ?_) (fun r1 hr1 => ?_)
  · refine TX_ite (fun e2 => ?_) ?_
    · refine TX_catch zy.2.2.2.2 zE hZ C htab 1 e2 [] [(0, 10, 17, 13)] (0, 10, 13, 21) rfl (List.forall_mem_nil _) (by decide) (by decide) kl_7 (by decide +kernel) (fun q3 => ?_)
      refine T_astore (pc := 13) (L' := [(4, .ref q3), (0, .ref (adc 0)), (1, vi x1), (2, vi x2), (3, .ref (adm 11))]) C dL_smallestCut_13 (Nat.le_of_ble_eq_true rfl) rfl ?_
      refine T_iconst (pc := 15) C dL_smallestCut_15 ?_
      exact T_iret (pc := 16) ((r1.1, σ.2), 1) (fun h9 => h9) (rngL rfl) (nar_I _) (by decide) dL_smallestCut_16
    refine TX_ite (fun e4 => ?_) ?_
    · refine TX_catch zy.2.2.2.2 zE hZ C htab 2 e4 [(0, 10, 13, 21)] [] (0, 10, 17, 13) rfl (List.forall_mem_cons.mpr ⟨⟨by decide, 1, kl_7, by decide⟩, (List.forall_mem_nil _)⟩) (by decide) (by decide) kl_1 (by decide +kernel) (fun q5 => ?_)
      refine T_astore (pc := 17) (L' := [(4, .ref q5), (0, .ref (adc 0)), (1, vi x1), (2, vi x2), (3, .ref (adm 11))]) C dL_smallestCut_17 (Nat.le_of_ble_eq_true rfl) rfl ?_
      refine T_iconst (pc := 19) C dL_smallestCut_19 ?_
      exact T_iret (pc := 20) ((r1.1, σ.2), 2) (fun h9 => h9) (rngL rfl) (nar_I _) (by decide) dL_smallestCut_20
    exact TX_none
  · refine T_i2l (pc := 8) C hr1.1 dL_smallestCut_8 ?_
    refine T_last (pc := 9) C hr1.1 dL_smallestCut_9 ?_
    refine T_goto (pc := 10) C 21 dL_smallestCut_10 rfl ?_
    refine T_iconst (pc := 21) C dL_smallestCut_21 ?_
    exact T_iret (pc := 22) (((r1.1, σ.2).1, (r1.1, σ.2).2.1, r1.2.2, (r1.1, σ.2).2.2.2), 0) (fun h9 => h9) (rngL rfl) (nar_I _) (by decide) dL_smallestCut_22
abbrev rm_L_freeSeats : Room := ⟨8, 1, 6, 126⟩
theorem cm_L_freeSeats : cmL yL_freeSeats cL_freeSeats 7 [(0, 14, 17, 21), (0, 14, 21, 13)] 6 := ⟨kl_94, kl_4, ⟨by decide +kernel, by decide +kernel, by decide +kernel⟩, kl_95⟩
def f_L_freeSeats (N : Nat) (σ : SL) (x1 : Int) (x2 : Int) (x3 : Int) (x4 : Int) : Option (SL × Int) :=
  (f_X12_freeSeats N σ.1 x1 x2 x3 x4).bind fun r1 => if r1.2.1 = 0 then some (((r1.1, σ.2).1, (r1.1, σ.2).2.1, r1.2.2, (r1.1, σ.2).2.2.2), 0) else (if r1.2.1 = 1 then some ((r1.1, σ.2), 1) else (if r1.2.1 = 2 then some ((r1.1, σ.2), 2) else none))
theorem ct_L_freeSeats {l : Launch} {cy : Nat → ClassId} {adc adm : Nat → Nat} {E : Nat → Nat → Nat} {G : va_G} {Z : vZ} {sa : Nat → Nat} (zk : Zk Z E) (zy : Zy Z E sa) (zs : ZS Z E) (zE : ZE Z) (hst : l.stackTraces = false) (N : Nat) (σ : SL) (x1 : Int) (x2 : Int) (x3 : Int) (x4 : Int) (h1 : rng x1) (h2 : rng x2) (h3 : rng x3) (h4 : rng x4) (hw : wfL σ) (o : SL × Int) (h : f_L_freeSeats N σ x1 x2 x3 x4 = some o) : ClI Z l yL_freeSeats cL_freeSeats 7 [(0, 14, 17, 21), (0, 14, 21, 13)] rm_L_freeSeats cy adc adm E G [.ref (adc 0), vi x1, vi x2, vi x3, vi x4, .ref (adm 11)] σ o.1 o.2 := by
  refine clI_of (by decide) (Nat.le_of_ble_eq_true rfl) hw o h (fun X A Q hZ hX htab C => ?_)
  replace hst : X.2.1.stackTraces = false := by rw [hX]; exact hst
  replace C : Cx X (YL cy adc adm E G A 7 Q) cL_freeSeats RL (some .int) rm_L_freeSeats (tyL cy) := C
  replace hZ : Zx Z X (YL cy adc adm E G A 7 Q) := hZ
  show T X (YL cy adc adm E G A 7 Q) (fun w => EndI X (YL cy adc adm E G A 7 Q) cL_freeSeats rm_L_freeSeats .int w) 0 0 0 [(0, .ref (adc 0)), (1, vi x1), (2, vi x2), (3, vi x3), (4, vi x4), (5, .ref (adm 11))] [] σ (f_L_freeSeats N σ x1 x2 x3 x4)
  unfold f_L_freeSeats
  refine T_aload (pc := 0) C dL_freeSeats_0 5 rfl ?_
  refine T_iconst (pc := 2) C dL_freeSeats_2 ?_
  refine T_aload_n (pc := 3) C dL_freeSeats_3 rfl 0 rfl ?_
  refine T_iload_n (pc := 4) C dL_freeSeats_4 rfl 1 rfl ?_
  refine T_iload_n (pc := 5) C dL_freeSeats_5 rfl 2 rfl ?_
  refine T_iload_n (pc := 6) C dL_freeSeats_6 rfl 3 rfl ?_
  refine T_iload (pc := 7) C dL_freeSeats_7 4 rfl ?_
  refine T_lxi (pc := 9) zk.1 hZ C [vi x1, vi x2, vi x3, vi x4] [vi 0, .ref (adm 11)] (fun o h9 hw => ct_X12_freeSeats zk zy hst N σ.1 x1 x2 x3 x4 h1 h2 h3 h4 hw o h9) kl_93 cm_X12_freeSeats (rcc (rfl : kd 0 = 12) (by decide) (fun _ => rfl) rfl) rfl rfl (Nat.le_of_ble_eq_true rfl) (by decide) (a' := 1) (b' := 6) ⟨rfl, rfl⟩ dL_freeSeats_9 (fun r1 => ?_) (fun r1 hr1 => ?_)
  · refine TX_ite (fun e2 => ?_) ?_
    · refine TX_catch zy.2.2.2.2 zE hZ C htab 1 e2 [] [(0, 14, 21, 13)] (0, 14, 17, 21) rfl (List.forall_mem_nil _) (by decide) (by decide) kl_7 (by decide +kernel) (fun q3 => ?_)
      refine T_astore (pc := 17) (L' := [(6, .ref q3), (0, .ref (adc 0)), (1, vi x1), (2, vi x2), (3, vi x3), (4, vi x4), (5, .ref (adm 11))]) C dL_freeSeats_17 (Nat.le_of_ble_eq_true rfl) rfl ?_
      refine T_iconst (pc := 19) C dL_freeSeats_19 ?_
      exact T_iret (pc := 20) ((r1.1, σ.2), 1) (fun h9 => h9) (rngL rfl) (nar_I _) (by decide) dL_freeSeats_20
    refine TX_ite (fun e4 => ?_) ?_
    · refine TX_catch zy.2.2.2.2 zE hZ C htab 2 e4 [(0, 14, 17, 21)] [] (0, 14, 21, 13) rfl (List.forall_mem_cons.mpr ⟨⟨by decide, 1, kl_7, by decide⟩, (List.forall_mem_nil _)⟩) (by decide) (by decide) kl_1 (by decide +kernel) (fun q5 => ?_)
      refine T_astore (pc := 21) (L' := [(6, .ref q5), (0, .ref (adc 0)), (1, vi x1), (2, vi x2), (3, vi x3), (4, vi x4), (5, .ref (adm 11))]) C dL_freeSeats_21 (Nat.le_of_ble_eq_true rfl) rfl ?_
      refine T_iconst (pc := 23) C dL_freeSeats_23 ?_
      exact T_iret (pc := 24) ((r1.1, σ.2), 2) (fun h9 => h9) (rngL rfl) (nar_I _) (by decide) dL_freeSeats_24
    exact TX_none
  · refine T_i2l (pc := 12) C hr1.1 dL_freeSeats_12 ?_
    refine T_last (pc := 13) C hr1.1 dL_freeSeats_13 ?_
    refine T_goto (pc := 14) C 25 dL_freeSeats_14 rfl ?_
    refine T_iconst (pc := 25) C dL_freeSeats_25 ?_
    exact T_iret (pc := 26) (((r1.1, σ.2).1, (r1.1, σ.2).2.1, r1.2.2, (r1.1, σ.2).2.2.2), 0) (fun h9 => h9) (rngL rfl) (nar_I _) (by decide) dL_freeSeats_26
abbrev rm_L_freeSeatsBySweep : Room := ⟨8, 1, 6, 126⟩
theorem cm_L_freeSeatsBySweep : cmL yL_freeSeatsBySweep cL_freeSeatsBySweep 7 [(0, 14, 17, 21), (0, 14, 21, 13)] 6 := ⟨kl_97, kl_4, ⟨by decide +kernel, by decide +kernel, by decide +kernel⟩, kl_98⟩
def f_L_freeSeatsBySweep (N : Nat) (σ : SL) (x1 : Int) (x2 : Int) (x3 : Int) (x4 : Int) : Option (SL × Int) :=
  (f_X12_freeSeatsBySweep N σ.1 x1 x2 x3 x4).bind fun r1 => if r1.2.1 = 0 then some (((r1.1, σ.2).1, (r1.1, σ.2).2.1, r1.2.2, (r1.1, σ.2).2.2.2), 0) else (if r1.2.1 = 1 then some ((r1.1, σ.2), 1) else (if r1.2.1 = 2 then some ((r1.1, σ.2), 2) else none))
theorem ct_L_freeSeatsBySweep {l : Launch} {cy : Nat → ClassId} {adc adm : Nat → Nat} {E : Nat → Nat → Nat} {G : va_G} {Z : vZ} {sa : Nat → Nat} (zk : Zk Z E) (zy : Zy Z E sa) (zs : ZS Z E) (zE : ZE Z) (hst : l.stackTraces = false) (N : Nat) (σ : SL) (x1 : Int) (x2 : Int) (x3 : Int) (x4 : Int) (h1 : rng x1) (h2 : rng x2) (h3 : rng x3) (h4 : rng x4) (hw : wfL σ) (o : SL × Int) (h : f_L_freeSeatsBySweep N σ x1 x2 x3 x4 = some o) : ClI Z l yL_freeSeatsBySweep cL_freeSeatsBySweep 7 [(0, 14, 17, 21), (0, 14, 21, 13)] rm_L_freeSeatsBySweep cy adc adm E G [.ref (adc 0), vi x1, vi x2, vi x3, vi x4, .ref (adm 11)] σ o.1 o.2 := by
  refine clI_of (by decide) (Nat.le_of_ble_eq_true rfl) hw o h (fun X A Q hZ hX htab C => ?_)
  replace hst : X.2.1.stackTraces = false := by rw [hX]; exact hst
  replace C : Cx X (YL cy adc adm E G A 7 Q) cL_freeSeatsBySweep RL (some .int) rm_L_freeSeatsBySweep (tyL cy) := C
  replace hZ : Zx Z X (YL cy adc adm E G A 7 Q) := hZ
  show T X (YL cy adc adm E G A 7 Q) (fun w => EndI X (YL cy adc adm E G A 7 Q) cL_freeSeatsBySweep rm_L_freeSeatsBySweep .int w) 0 0 0 [(0, .ref (adc 0)), (1, vi x1), (2, vi x2), (3, vi x3), (4, vi x4), (5, .ref (adm 11))] [] σ (f_L_freeSeatsBySweep N σ x1 x2 x3 x4)
  unfold f_L_freeSeatsBySweep
  refine T_aload (pc := 0) C dL_freeSeatsBySweep_0 5 rfl ?_
  refine T_iconst (pc := 2) C dL_freeSeatsBySweep_2 ?_
  refine T_aload_n (pc := 3) C dL_freeSeatsBySweep_3 rfl 0 rfl ?_
  refine T_iload_n (pc := 4) C dL_freeSeatsBySweep_4 rfl 1 rfl ?_
  refine T_iload_n (pc := 5) C dL_freeSeatsBySweep_5 rfl 2 rfl ?_
  refine T_iload_n (pc := 6) C dL_freeSeatsBySweep_6 rfl 3 rfl ?_
  refine T_iload (pc := 7) C dL_freeSeatsBySweep_7 4 rfl ?_
  refine T_lxi (pc := 9) zk.1 hZ C [vi x1, vi x2, vi x3, vi x4] [vi 0, .ref (adm 11)] (fun o h9 hw => ct_X12_freeSeatsBySweep zk zy hst N σ.1 x1 x2 x3 x4 h1 h2 h3 h4 hw o h9) kl_96 cm_X12_freeSeatsBySweep (rcc (rfl : kd 0 = 12) (by decide) (fun _ => rfl) rfl) rfl rfl (Nat.le_of_ble_eq_true rfl) (by decide) (a' := 1) (b' := 6) ⟨rfl, rfl⟩ dL_freeSeatsBySweep_9 (fun r1 => ?_) (fun r1 hr1 => ?_)
  · refine TX_ite (fun e2 => ?_) ?_
    · refine TX_catch zy.2.2.2.2 zE hZ C htab 1 e2 [] [(0, 14, 21, 13)] (0, 14, 17, 21) rfl (List.forall_mem_nil _) (by decide) (by decide) kl_7 (by decide +kernel) (fun q3 => ?_)
      refine T_astore (pc := 17) (L' := [(6, .ref q3), (0, .ref (adc 0)), (1, vi x1), (2, vi x2), (3, vi x3), (4, vi x4), (5, .ref (adm 11))]) C dL_freeSeatsBySweep_17 (Nat.le_of_ble_eq_true rfl) rfl ?_
      refine T_iconst (pc := 19) C dL_freeSeatsBySweep_19 ?_
      exact T_iret (pc := 20) ((r1.1, σ.2), 1) (fun h9 => h9) (rngL rfl) (nar_I _) (by decide) dL_freeSeatsBySweep_20
    refine TX_ite (fun e4 => ?_) ?_
    · refine TX_catch zy.2.2.2.2 zE hZ C htab 2 e4 [(0, 14, 17, 21)] [] (0, 14, 21, 13) rfl (List.forall_mem_cons.mpr ⟨⟨by decide, 1, kl_7, by decide⟩, (List.forall_mem_nil _)⟩) (by decide) (by decide) kl_1 (by decide +kernel) (fun q5 => ?_)
      refine T_astore (pc := 21) (L' := [(6, .ref q5), (0, .ref (adc 0)), (1, vi x1), (2, vi x2), (3, vi x3), (4, vi x4), (5, .ref (adm 11))]) C dL_freeSeatsBySweep_21 (Nat.le_of_ble_eq_true rfl) rfl ?_
      refine T_iconst (pc := 23) C dL_freeSeatsBySweep_23 ?_
      exact T_iret (pc := 24) ((r1.1, σ.2), 2) (fun h9 => h9) (rngL rfl) (nar_I _) (by decide) dL_freeSeatsBySweep_24
    exact TX_none
  · refine T_i2l (pc := 12) C hr1.1 dL_freeSeatsBySweep_12 ?_
    refine T_last (pc := 13) C hr1.1 dL_freeSeatsBySweep_13 ?_
    refine T_goto (pc := 14) C 25 dL_freeSeatsBySweep_14 rfl ?_
    refine T_iconst (pc := 25) C dL_freeSeatsBySweep_25 ?_
    exact T_iret (pc := 26) (((r1.1, σ.2).1, (r1.1, σ.2).2.1, r1.2.2, (r1.1, σ.2).2.2.2), 0) (fun h9 => h9) (rngL rfl) (nar_I _) (by decide) dL_freeSeatsBySweep_26
abbrev rm_L_ticketAt : Room := ⟨7, 1, 6, 103⟩
theorem cm_L_ticketAt : cmL yL_ticketAt cL_ticketAt 4 [(0, 9, 12, 21)] 3 := ⟨kl_100, kl_4, ⟨by decide +kernel, by decide +kernel, by decide +kernel⟩, kl_101⟩
def f_L_ticketAt (N : Nat) (σ : SL) (x1 : Int) : Option (SL × Int) :=
  (f_X12_ticketAt σ.1 x1).bind fun r1 => if r1.2.1 = 0 then some (((r1.1, σ.2).1, (r1.1, σ.2).2.1, r1.2.2, (r1.1, σ.2).2.2.2), 0) else (if r1.2.1 = 1 then some ((r1.1, σ.2), 1) else none)
theorem ct_L_ticketAt {l : Launch} {cy : Nat → ClassId} {adc adm : Nat → Nat} {E : Nat → Nat → Nat} {G : va_G} {Z : vZ} {sa : Nat → Nat} (zk : Zk Z E) (zy : Zy Z E sa) (zs : ZS Z E) (zE : ZE Z) (hst : l.stackTraces = false) (N : Nat) (σ : SL) (x1 : Int) (h1 : rng x1) (hw : wfL σ) (o : SL × Int) (h : f_L_ticketAt N σ x1 = some o) : ClI Z l yL_ticketAt cL_ticketAt 4 [(0, 9, 12, 21)] rm_L_ticketAt cy adc adm E G [.ref (adc 0), vi x1, .ref (adm 11)] σ o.1 o.2 := by
  refine clI_of (by decide) (Nat.le_of_ble_eq_true rfl) hw o h (fun X A Q hZ hX htab C => ?_)
  replace hst : X.2.1.stackTraces = false := by rw [hX]; exact hst
  replace C : Cx X (YL cy adc adm E G A 4 Q) cL_ticketAt RL (some .int) rm_L_ticketAt (tyL cy) := C
  replace hZ : Zx Z X (YL cy adc adm E G A 4 Q) := hZ
  show T X (YL cy adc adm E G A 4 Q) (fun w => EndI X (YL cy adc adm E G A 4 Q) cL_ticketAt rm_L_ticketAt .int w) 0 0 0 [(0, .ref (adc 0)), (1, vi x1), (2, .ref (adm 11))] [] σ (f_L_ticketAt N σ x1)
  unfold f_L_ticketAt
  refine T_aload_n (pc := 0) C dL_ticketAt_0 rfl 2 rfl ?_
  refine T_iconst (pc := 1) C dL_ticketAt_1 ?_
  refine T_aload_n (pc := 2) C dL_ticketAt_2 rfl 0 rfl ?_
  refine T_iload_n (pc := 3) C dL_ticketAt_3 rfl 1 rfl ?_
  refine T_lxi (pc := 4) zk.1 hZ C [vi x1] [vi 0, .ref (adm 11)] (fun o h9 hw => ct_X12_ticketAt zk zy hst σ.1 x1 h1 hw o h9) kl_99 cm_X12_ticketAt (rcc (rfl : kd 0 = 12) (by decide) (fun _ => rfl) rfl) rfl rfl (Nat.le_of_ble_eq_true rfl) (by decide) (a' := 1) (b' := 6) ⟨rfl, rfl⟩ dL_ticketAt_4 (fun r1 => ?_) (fun r1 hr1 => ?_)
  · refine TX_ite (fun e2 => ?_) ?_
    · refine TX_catch zy.2.2.2.2 zE hZ C htab 1 e2 [] [] (0, 9, 12, 21) rfl (List.forall_mem_nil _) (by decide) (by decide) kl_7 (by decide +kernel) (fun q3 => ?_)
      refine T_astore_n (pc := 12) (L' := [(3, .ref q3), (0, .ref (adc 0)), (1, vi x1), (2, .ref (adm 11))]) C dL_ticketAt_12 rfl (Nat.le_of_ble_eq_true rfl) rfl ?_
      refine T_iconst (pc := 13) C dL_ticketAt_13 ?_
      exact T_iret (pc := 14) ((r1.1, σ.2), 1) (fun h9 => h9) (rngL rfl) (nar_I _) (by decide) dL_ticketAt_14
    exact TX_none
  · refine T_i2l (pc := 7) C hr1.1 dL_ticketAt_7 ?_
    refine T_last (pc := 8) C hr1.1 dL_ticketAt_8 ?_
    refine T_goto (pc := 9) C 15 dL_ticketAt_9 rfl ?_
    refine T_iconst (pc := 15) C dL_ticketAt_15 ?_
    exact T_iret (pc := 16) (((r1.1, σ.2).1, (r1.1, σ.2).2.1, r1.2.2, (r1.1, σ.2).2.2.2), 0) (fun h9 => h9) (rngL rfl) (nar_I _) (by decide) dL_ticketAt_16
abbrev rm_L_ticketLine : Room := ⟨8, 1, 6, 125⟩
theorem cm_L_ticketLine : cmL yL_ticketLine cL_ticketLine 4 [(0, 9, 12, 27)] 3 := ⟨kl_103, kl_4, ⟨by decide +kernel, by decide +kernel, by decide +kernel⟩, kl_104⟩
def f_L_ticketLine (N : Nat) (σ : SL) (x1 : Int) : Option (SL × Int) :=
  (f_X12_ticketLine N σ.1 x1).bind fun r1 => if r1.2.1 = 0 then some (((r1.1, σ.2).1, (r1.1, σ.2).2.1, r1.2.2, (r1.1, σ.2).2.2.2), 0) else (if r1.2.1 = 4 then some ((r1.1, σ.2), 1) else none)
theorem ct_L_ticketLine {l : Launch} {cy : Nat → ClassId} {adc adm : Nat → Nat} {E : Nat → Nat → Nat} {G : va_G} {Z : vZ} {sa : Nat → Nat} (zk : Zk Z E) (zy : Zy Z E sa) (zs : ZS Z E) (zE : ZE Z) (hst : l.stackTraces = false) (N : Nat) (σ : SL) (x1 : Int) (h1 : rng x1) (hw : wfL σ) (o : SL × Int) (h : f_L_ticketLine N σ x1 = some o) : ClI Z l yL_ticketLine cL_ticketLine 4 [(0, 9, 12, 27)] rm_L_ticketLine cy adc adm E G [.ref (adc 0), vi x1, .ref (adm 11)] σ o.1 o.2 := by
  refine clI_of (by decide) (Nat.le_of_ble_eq_true rfl) hw o h (fun X A Q hZ hX htab C => ?_)
  replace hst : X.2.1.stackTraces = false := by rw [hX]; exact hst
  replace C : Cx X (YL cy adc adm E G A 4 Q) cL_ticketLine RL (some .int) rm_L_ticketLine (tyL cy) := C
  replace hZ : Zx Z X (YL cy adc adm E G A 4 Q) := hZ
  show T X (YL cy adc adm E G A 4 Q) (fun w => EndI X (YL cy adc adm E G A 4 Q) cL_ticketLine rm_L_ticketLine .int w) 0 0 0 [(0, .ref (adc 0)), (1, vi x1), (2, .ref (adm 11))] [] σ (f_L_ticketLine N σ x1)
  unfold f_L_ticketLine
  refine T_aload_n (pc := 0) C dL_ticketLine_0 rfl 2 rfl ?_
  refine T_iconst (pc := 1) C dL_ticketLine_1 ?_
  refine T_aload_n (pc := 2) C dL_ticketLine_2 rfl 0 rfl ?_
  refine T_iload_n (pc := 3) C dL_ticketLine_3 rfl 1 rfl ?_
  refine T_lxi (pc := 4) zk.1 hZ C [vi x1] [vi 0, .ref (adm 11)] (fun o h9 hw => ct_X12_ticketLine zk zy hst N σ.1 x1 h1 hw o h9) kl_102 cm_X12_ticketLine (rcc (rfl : kd 0 = 12) (by decide) (fun _ => rfl) rfl) rfl rfl (Nat.le_of_ble_eq_true rfl) (by decide) (a' := 1) (b' := 6) ⟨rfl, rfl⟩ dL_ticketLine_4 (fun r1 => ?_) (fun r1 hr1 => ?_)
  · refine TX_ite (fun e2 => ?_) ?_
    · refine TX_catch zy.2.2.2.2 zE hZ C htab 4 e2 [] [] (0, 9, 12, 27) rfl (List.forall_mem_nil _) (by decide) (by decide) kl_11 (by decide +kernel) (fun q3 => ?_)
      refine T_astore_n (pc := 12) (L' := [(3, .ref q3), (0, .ref (adc 0)), (1, vi x1), (2, .ref (adm 11))]) C dL_ticketLine_12 rfl (Nat.le_of_ble_eq_true rfl) rfl ?_
      refine T_iconst (pc := 13) C dL_ticketLine_13 ?_
      exact T_iret (pc := 14) ((r1.1, σ.2), 1) (fun h9 => h9) (rngL rfl) (nar_I _) (by decide) dL_ticketLine_14
    exact TX_none
  · refine T_i2l (pc := 7) C hr1.1 dL_ticketLine_7 ?_
    refine T_last (pc := 8) C hr1.1 dL_ticketLine_8 ?_
    refine T_goto (pc := 9) C 15 dL_ticketLine_9 rfl ?_
    refine T_iconst (pc := 15) C dL_ticketLine_15 ?_
    exact T_iret (pc := 16) (((r1.1, σ.2).1, (r1.1, σ.2).2.1, r1.2.2, (r1.1, σ.2).2.2.2), 0) (fun h9 => h9) (rngL rfl) (nar_I _) (by decide) dL_ticketLine_16
abbrev rm_L_ticketTrip : Room := ⟨8, 1, 6, 125⟩
theorem cm_L_ticketTrip : cmL yL_ticketTrip cL_ticketTrip 4 [(0, 9, 12, 27)] 3 := ⟨kl_106, kl_4, ⟨by decide +kernel, by decide +kernel, by decide +kernel⟩, kl_107⟩
def f_L_ticketTrip (N : Nat) (σ : SL) (x1 : Int) : Option (SL × Int) :=
  (f_X12_ticketTrip N σ.1 x1).bind fun r1 => if r1.2.1 = 0 then some (((r1.1, σ.2).1, (r1.1, σ.2).2.1, r1.2.2, (r1.1, σ.2).2.2.2), 0) else (if r1.2.1 = 4 then some ((r1.1, σ.2), 1) else none)
theorem ct_L_ticketTrip {l : Launch} {cy : Nat → ClassId} {adc adm : Nat → Nat} {E : Nat → Nat → Nat} {G : va_G} {Z : vZ} {sa : Nat → Nat} (zk : Zk Z E) (zy : Zy Z E sa) (zs : ZS Z E) (zE : ZE Z) (hst : l.stackTraces = false) (N : Nat) (σ : SL) (x1 : Int) (h1 : rng x1) (hw : wfL σ) (o : SL × Int) (h : f_L_ticketTrip N σ x1 = some o) : ClI Z l yL_ticketTrip cL_ticketTrip 4 [(0, 9, 12, 27)] rm_L_ticketTrip cy adc adm E G [.ref (adc 0), vi x1, .ref (adm 11)] σ o.1 o.2 := by
  refine clI_of (by decide) (Nat.le_of_ble_eq_true rfl) hw o h (fun X A Q hZ hX htab C => ?_)
  replace hst : X.2.1.stackTraces = false := by rw [hX]; exact hst
  replace C : Cx X (YL cy adc adm E G A 4 Q) cL_ticketTrip RL (some .int) rm_L_ticketTrip (tyL cy) := C
  replace hZ : Zx Z X (YL cy adc adm E G A 4 Q) := hZ
  show T X (YL cy adc adm E G A 4 Q) (fun w => EndI X (YL cy adc adm E G A 4 Q) cL_ticketTrip rm_L_ticketTrip .int w) 0 0 0 [(0, .ref (adc 0)), (1, vi x1), (2, .ref (adm 11))] [] σ (f_L_ticketTrip N σ x1)
  unfold f_L_ticketTrip
  refine T_aload_n (pc := 0) C dL_ticketTrip_0 rfl 2 rfl ?_
  refine T_iconst (pc := 1) C dL_ticketTrip_1 ?_
  refine T_aload_n (pc := 2) C dL_ticketTrip_2 rfl 0 rfl ?_
  refine T_iload_n (pc := 3) C dL_ticketTrip_3 rfl 1 rfl ?_
  refine T_lxi (pc := 4) zk.1 hZ C [vi x1] [vi 0, .ref (adm 11)] (fun o h9 hw => ct_X12_ticketTrip zk zy hst N σ.1 x1 h1 hw o h9) kl_105 cm_X12_ticketTrip (rcc (rfl : kd 0 = 12) (by decide) (fun _ => rfl) rfl) rfl rfl (Nat.le_of_ble_eq_true rfl) (by decide) (a' := 1) (b' := 6) ⟨rfl, rfl⟩ dL_ticketTrip_4 (fun r1 => ?_) (fun r1 hr1 => ?_)
  · refine TX_ite (fun e2 => ?_) ?_
    · refine TX_catch zy.2.2.2.2 zE hZ C htab 4 e2 [] [] (0, 9, 12, 27) rfl (List.forall_mem_nil _) (by decide) (by decide) kl_11 (by decide +kernel) (fun q3 => ?_)
      refine T_astore_n (pc := 12) (L' := [(3, .ref q3), (0, .ref (adc 0)), (1, vi x1), (2, .ref (adm 11))]) C dL_ticketTrip_12 rfl (Nat.le_of_ble_eq_true rfl) rfl ?_
      refine T_iconst (pc := 13) C dL_ticketTrip_13 ?_
      exact T_iret (pc := 14) ((r1.1, σ.2), 1) (fun h9 => h9) (rngL rfl) (nar_I _) (by decide) dL_ticketTrip_14
    exact TX_none
  · refine T_i2l (pc := 7) C hr1.1 dL_ticketTrip_7 ?_
    refine T_last (pc := 8) C hr1.1 dL_ticketTrip_8 ?_
    refine T_goto (pc := 9) C 15 dL_ticketTrip_9 rfl ?_
    refine T_iconst (pc := 15) C dL_ticketTrip_15 ?_
    exact T_iret (pc := 16) (((r1.1, σ.2).1, (r1.1, σ.2).2.1, r1.2.2, (r1.1, σ.2).2.2.2), 0) (fun h9 => h9) (rngL rfl) (nar_I _) (by decide) dL_ticketTrip_16
abbrev rm_L_ticketFrom : Room := ⟨8, 1, 6, 125⟩
theorem cm_L_ticketFrom : cmL yL_ticketFrom cL_ticketFrom 4 [(0, 9, 12, 27)] 3 := ⟨kl_109, kl_4, ⟨by decide +kernel, by decide +kernel, by decide +kernel⟩, kl_110⟩
def f_L_ticketFrom (N : Nat) (σ : SL) (x1 : Int) : Option (SL × Int) :=
  (f_X12_ticketFrom N σ.1 x1).bind fun r1 => if r1.2.1 = 0 then some (((r1.1, σ.2).1, (r1.1, σ.2).2.1, r1.2.2, (r1.1, σ.2).2.2.2), 0) else (if r1.2.1 = 4 then some ((r1.1, σ.2), 1) else none)
theorem ct_L_ticketFrom {l : Launch} {cy : Nat → ClassId} {adc adm : Nat → Nat} {E : Nat → Nat → Nat} {G : va_G} {Z : vZ} {sa : Nat → Nat} (zk : Zk Z E) (zy : Zy Z E sa) (zs : ZS Z E) (zE : ZE Z) (hst : l.stackTraces = false) (N : Nat) (σ : SL) (x1 : Int) (h1 : rng x1) (hw : wfL σ) (o : SL × Int) (h : f_L_ticketFrom N σ x1 = some o) : ClI Z l yL_ticketFrom cL_ticketFrom 4 [(0, 9, 12, 27)] rm_L_ticketFrom cy adc adm E G [.ref (adc 0), vi x1, .ref (adm 11)] σ o.1 o.2 := by
  refine clI_of (by decide) (Nat.le_of_ble_eq_true rfl) hw o h (fun X A Q hZ hX htab C => ?_)
  replace hst : X.2.1.stackTraces = false := by rw [hX]; exact hst
  replace C : Cx X (YL cy adc adm E G A 4 Q) cL_ticketFrom RL (some .int) rm_L_ticketFrom (tyL cy) := C
  replace hZ : Zx Z X (YL cy adc adm E G A 4 Q) := hZ
  show T X (YL cy adc adm E G A 4 Q) (fun w => EndI X (YL cy adc adm E G A 4 Q) cL_ticketFrom rm_L_ticketFrom .int w) 0 0 0 [(0, .ref (adc 0)), (1, vi x1), (2, .ref (adm 11))] [] σ (f_L_ticketFrom N σ x1)
  unfold f_L_ticketFrom
  refine T_aload_n (pc := 0) C dL_ticketFrom_0 rfl 2 rfl ?_
  refine T_iconst (pc := 1) C dL_ticketFrom_1 ?_
  refine T_aload_n (pc := 2) C dL_ticketFrom_2 rfl 0 rfl ?_
  refine T_iload_n (pc := 3) C dL_ticketFrom_3 rfl 1 rfl ?_
  refine T_lxi (pc := 4) zk.1 hZ C [vi x1] [vi 0, .ref (adm 11)] (fun o h9 hw => ct_X12_ticketFrom zk zy hst N σ.1 x1 h1 hw o h9) kl_108 cm_X12_ticketFrom (rcc (rfl : kd 0 = 12) (by decide) (fun _ => rfl) rfl) rfl rfl (Nat.le_of_ble_eq_true rfl) (by decide) (a' := 1) (b' := 6) ⟨rfl, rfl⟩ dL_ticketFrom_4 (fun r1 => ?_) (fun r1 hr1 => ?_)
  · refine TX_ite (fun e2 => ?_) ?_
    · refine TX_catch zy.2.2.2.2 zE hZ C htab 4 e2 [] [] (0, 9, 12, 27) rfl (List.forall_mem_nil _) (by decide) (by decide) kl_11 (by decide +kernel) (fun q3 => ?_)
      refine T_astore_n (pc := 12) (L' := [(3, .ref q3), (0, .ref (adc 0)), (1, vi x1), (2, .ref (adm 11))]) C dL_ticketFrom_12 rfl (Nat.le_of_ble_eq_true rfl) rfl ?_
      refine T_iconst (pc := 13) C dL_ticketFrom_13 ?_
      exact T_iret (pc := 14) ((r1.1, σ.2), 1) (fun h9 => h9) (rngL rfl) (nar_I _) (by decide) dL_ticketFrom_14
    exact TX_none
  · refine T_i2l (pc := 7) C hr1.1 dL_ticketFrom_7 ?_
    refine T_last (pc := 8) C hr1.1 dL_ticketFrom_8 ?_
    refine T_goto (pc := 9) C 15 dL_ticketFrom_9 rfl ?_
    refine T_iconst (pc := 15) C dL_ticketFrom_15 ?_
    exact T_iret (pc := 16) (((r1.1, σ.2).1, (r1.1, σ.2).2.1, r1.2.2, (r1.1, σ.2).2.2.2), 0) (fun h9 => h9) (rngL rfl) (nar_I _) (by decide) dL_ticketFrom_16
abbrev rm_L_ticketTo : Room := ⟨8, 1, 6, 125⟩
theorem cm_L_ticketTo : cmL yL_ticketTo cL_ticketTo 4 [(0, 9, 12, 27)] 3 := ⟨kl_112, kl_4, ⟨by decide +kernel, by decide +kernel, by decide +kernel⟩, kl_113⟩
def f_L_ticketTo (N : Nat) (σ : SL) (x1 : Int) : Option (SL × Int) :=
  (f_X12_ticketTo N σ.1 x1).bind fun r1 => if r1.2.1 = 0 then some (((r1.1, σ.2).1, (r1.1, σ.2).2.1, r1.2.2, (r1.1, σ.2).2.2.2), 0) else (if r1.2.1 = 4 then some ((r1.1, σ.2), 1) else none)
theorem ct_L_ticketTo {l : Launch} {cy : Nat → ClassId} {adc adm : Nat → Nat} {E : Nat → Nat → Nat} {G : va_G} {Z : vZ} {sa : Nat → Nat} (zk : Zk Z E) (zy : Zy Z E sa) (zs : ZS Z E) (zE : ZE Z) (hst : l.stackTraces = false) (N : Nat) (σ : SL) (x1 : Int) (h1 : rng x1) (hw : wfL σ) (o : SL × Int) (h : f_L_ticketTo N σ x1 = some o) : ClI Z l yL_ticketTo cL_ticketTo 4 [(0, 9, 12, 27)] rm_L_ticketTo cy adc adm E G [.ref (adc 0), vi x1, .ref (adm 11)] σ o.1 o.2 := by
  refine clI_of (by decide) (Nat.le_of_ble_eq_true rfl) hw o h (fun X A Q hZ hX htab C => ?_)
  replace hst : X.2.1.stackTraces = false := by rw [hX]; exact hst
  replace C : Cx X (YL cy adc adm E G A 4 Q) cL_ticketTo RL (some .int) rm_L_ticketTo (tyL cy) := C
  replace hZ : Zx Z X (YL cy adc adm E G A 4 Q) := hZ
  show T X (YL cy adc adm E G A 4 Q) (fun w => EndI X (YL cy adc adm E G A 4 Q) cL_ticketTo rm_L_ticketTo .int w) 0 0 0 [(0, .ref (adc 0)), (1, vi x1), (2, .ref (adm 11))] [] σ (f_L_ticketTo N σ x1)
  unfold f_L_ticketTo
  refine T_aload_n (pc := 0) C dL_ticketTo_0 rfl 2 rfl ?_
  refine T_iconst (pc := 1) C dL_ticketTo_1 ?_
  refine T_aload_n (pc := 2) C dL_ticketTo_2 rfl 0 rfl ?_
  refine T_iload_n (pc := 3) C dL_ticketTo_3 rfl 1 rfl ?_
  refine T_lxi (pc := 4) zk.1 hZ C [vi x1] [vi 0, .ref (adm 11)] (fun o h9 hw => ct_X12_ticketTo zk zy hst N σ.1 x1 h1 hw o h9) kl_111 cm_X12_ticketTo (rcc (rfl : kd 0 = 12) (by decide) (fun _ => rfl) rfl) rfl rfl (Nat.le_of_ble_eq_true rfl) (by decide) (a' := 1) (b' := 6) ⟨rfl, rfl⟩ dL_ticketTo_4 (fun r1 => ?_) (fun r1 hr1 => ?_)
  · refine TX_ite (fun e2 => ?_) ?_
    · refine TX_catch zy.2.2.2.2 zE hZ C htab 4 e2 [] [] (0, 9, 12, 27) rfl (List.forall_mem_nil _) (by decide) (by decide) kl_11 (by decide +kernel) (fun q3 => ?_)
      refine T_astore_n (pc := 12) (L' := [(3, .ref q3), (0, .ref (adc 0)), (1, vi x1), (2, .ref (adm 11))]) C dL_ticketTo_12 rfl (Nat.le_of_ble_eq_true rfl) rfl ?_
      refine T_iconst (pc := 13) C dL_ticketTo_13 ?_
      exact T_iret (pc := 14) ((r1.1, σ.2), 1) (fun h9 => h9) (rngL rfl) (nar_I _) (by decide) dL_ticketTo_14
    exact TX_none
  · refine T_i2l (pc := 7) C hr1.1 dL_ticketTo_7 ?_
    refine T_last (pc := 8) C hr1.1 dL_ticketTo_8 ?_
    refine T_goto (pc := 9) C 15 dL_ticketTo_9 rfl ?_
    refine T_iconst (pc := 15) C dL_ticketTo_15 ?_
    exact T_iret (pc := 16) (((r1.1, σ.2).1, (r1.1, σ.2).2.1, r1.2.2, (r1.1, σ.2).2.2.2), 0) (fun h9 => h9) (rngL rfl) (nar_I _) (by decide) dL_ticketTo_16
abbrev rm_L_ticketPrice : Room := ⟨8, 1, 6, 125⟩
theorem cm_L_ticketPrice : cmL yL_ticketPrice cL_ticketPrice 4 [(0, 9, 12, 27)] 3 := ⟨kl_115, kl_4, ⟨by decide +kernel, by decide +kernel, by decide +kernel⟩, kl_116⟩
def f_L_ticketPrice (N : Nat) (σ : SL) (x1 : Int) : Option (SL × Int) :=
  (f_X12_ticketPrice N σ.1 x1).bind fun r1 => if r1.2.1 = 0 then some (((r1.1, σ.2).1, (r1.1, σ.2).2.1, r1.2.2, (r1.1, σ.2).2.2.2), 0) else (if r1.2.1 = 4 then some ((r1.1, σ.2), 1) else none)
theorem ct_L_ticketPrice {l : Launch} {cy : Nat → ClassId} {adc adm : Nat → Nat} {E : Nat → Nat → Nat} {G : va_G} {Z : vZ} {sa : Nat → Nat} (zk : Zk Z E) (zy : Zy Z E sa) (zs : ZS Z E) (zE : ZE Z) (hst : l.stackTraces = false) (N : Nat) (σ : SL) (x1 : Int) (h1 : rng x1) (hw : wfL σ) (o : SL × Int) (h : f_L_ticketPrice N σ x1 = some o) : ClI Z l yL_ticketPrice cL_ticketPrice 4 [(0, 9, 12, 27)] rm_L_ticketPrice cy adc adm E G [.ref (adc 0), vi x1, .ref (adm 11)] σ o.1 o.2 := by
  refine clI_of (by decide) (Nat.le_of_ble_eq_true rfl) hw o h (fun X A Q hZ hX htab C => ?_)
  replace hst : X.2.1.stackTraces = false := by rw [hX]; exact hst
  replace C : Cx X (YL cy adc adm E G A 4 Q) cL_ticketPrice RL (some .int) rm_L_ticketPrice (tyL cy) := C
  replace hZ : Zx Z X (YL cy adc adm E G A 4 Q) := hZ
  show T X (YL cy adc adm E G A 4 Q) (fun w => EndI X (YL cy adc adm E G A 4 Q) cL_ticketPrice rm_L_ticketPrice .int w) 0 0 0 [(0, .ref (adc 0)), (1, vi x1), (2, .ref (adm 11))] [] σ (f_L_ticketPrice N σ x1)
  unfold f_L_ticketPrice
  refine T_aload_n (pc := 0) C dL_ticketPrice_0 rfl 2 rfl ?_
  refine T_iconst (pc := 1) C dL_ticketPrice_1 ?_
  refine T_aload_n (pc := 2) C dL_ticketPrice_2 rfl 0 rfl ?_
  refine T_iload_n (pc := 3) C dL_ticketPrice_3 rfl 1 rfl ?_
  refine T_lxi (pc := 4) zk.1 hZ C [vi x1] [vi 0, .ref (adm 11)] (fun o h9 hw => ct_X12_ticketPrice zk zy hst N σ.1 x1 h1 hw o h9) kl_114 cm_X12_ticketPrice (rcc (rfl : kd 0 = 12) (by decide) (fun _ => rfl) rfl) rfl rfl (Nat.le_of_ble_eq_true rfl) (by decide) (a' := 1) (b' := 6) ⟨rfl, rfl⟩ dL_ticketPrice_4 (fun r1 => ?_) (fun r1 hr1 => ?_)
  · refine TX_ite (fun e2 => ?_) ?_
    · refine TX_catch zy.2.2.2.2 zE hZ C htab 4 e2 [] [] (0, 9, 12, 27) rfl (List.forall_mem_nil _) (by decide) (by decide) kl_11 (by decide +kernel) (fun q3 => ?_)
      refine T_astore_n (pc := 12) (L' := [(3, .ref q3), (0, .ref (adc 0)), (1, vi x1), (2, .ref (adm 11))]) C dL_ticketPrice_12 rfl (Nat.le_of_ble_eq_true rfl) rfl ?_
      refine T_iconst (pc := 13) C dL_ticketPrice_13 ?_
      exact T_iret (pc := 14) ((r1.1, σ.2), 1) (fun h9 => h9) (rngL rfl) (nar_I _) (by decide) dL_ticketPrice_14
    exact TX_none
  · refine T_i2l (pc := 7) C hr1.1 dL_ticketPrice_7 ?_
    refine T_last (pc := 8) C hr1.1 dL_ticketPrice_8 ?_
    refine T_goto (pc := 9) C 15 dL_ticketPrice_9 rfl ?_
    refine T_iconst (pc := 15) C dL_ticketPrice_15 ?_
    exact T_iret (pc := 16) (((r1.1, σ.2).1, (r1.1, σ.2).2.1, r1.2.2, (r1.1, σ.2).2.2.2), 0) (fun h9 => h9) (rngL rfl) (nar_I _) (by decide) dL_ticketPrice_16
abbrev rm_L_lineByTickets : Room := ⟨7, 1, 6, 104⟩
theorem cm_L_lineByTickets : cmL yL_lineByTickets cL_lineByTickets 4 [(0, 9, 12, 27)] 3 := ⟨kl_118, kl_4, ⟨by decide +kernel, by decide +kernel, by decide +kernel⟩, kl_119⟩
def f_L_lineByTickets (N : Nat) (σ : SL) (x1 : Int) : Option (SL × Int) :=
  (f_X12_lineByTickets N σ.1 x1).bind fun r1 => if r1.2.1 = 0 then some (((r1.1, σ.2).1, (r1.1, σ.2).2.1, r1.2.2, (r1.1, σ.2).2.2.2), 0) else (if r1.2.1 = 4 then some ((r1.1, σ.2), 1) else none)
theorem ct_L_lineByTickets {l : Launch} {cy : Nat → ClassId} {adc adm : Nat → Nat} {E : Nat → Nat → Nat} {G : va_G} {Z : vZ} {sa : Nat → Nat} (zk : Zk Z E) (zy : Zy Z E sa) (zs : ZS Z E) (zE : ZE Z) (hst : l.stackTraces = false) (N : Nat) (σ : SL) (x1 : Int) (h1 : rng x1) (hw : wfL σ) (o : SL × Int) (h : f_L_lineByTickets N σ x1 = some o) : ClI Z l yL_lineByTickets cL_lineByTickets 4 [(0, 9, 12, 27)] rm_L_lineByTickets cy adc adm E G [.ref (adc 0), vi x1, .ref (adm 11)] σ o.1 o.2 := by
  refine clI_of (by decide) (Nat.le_of_ble_eq_true rfl) hw o h (fun X A Q hZ hX htab C => ?_)
  replace hst : X.2.1.stackTraces = false := by rw [hX]; exact hst
  replace C : Cx X (YL cy adc adm E G A 4 Q) cL_lineByTickets RL (some .int) rm_L_lineByTickets (tyL cy) := C
  replace hZ : Zx Z X (YL cy adc adm E G A 4 Q) := hZ
  show T X (YL cy adc adm E G A 4 Q) (fun w => EndI X (YL cy adc adm E G A 4 Q) cL_lineByTickets rm_L_lineByTickets .int w) 0 0 0 [(0, .ref (adc 0)), (1, vi x1), (2, .ref (adm 11))] [] σ (f_L_lineByTickets N σ x1)
  unfold f_L_lineByTickets
  refine T_aload_n (pc := 0) C dL_lineByTickets_0 rfl 2 rfl ?_
  refine T_iconst (pc := 1) C dL_lineByTickets_1 ?_
  refine T_aload_n (pc := 2) C dL_lineByTickets_2 rfl 0 rfl ?_
  refine T_iload_n (pc := 3) C dL_lineByTickets_3 rfl 1 rfl ?_
  refine T_lxi (pc := 4) zk.1 hZ C [vi x1] [vi 0, .ref (adm 11)] (fun o h9 hw => ct_X12_lineByTickets zk zy hst N σ.1 x1 h1 hw o h9) kl_117 cm_X12_lineByTickets (rcc (rfl : kd 0 = 12) (by decide) (fun _ => rfl) rfl) rfl rfl (Nat.le_of_ble_eq_true rfl) (by decide) (a' := 1) (b' := 6) ⟨rfl, rfl⟩ dL_lineByTickets_4 (fun r1 => ?_) (fun r1 hr1 => ?_)
  · refine TX_ite (fun e2 => ?_) ?_
    · refine TX_catch zy.2.2.2.2 zE hZ C htab 4 e2 [] [] (0, 9, 12, 27) rfl (List.forall_mem_nil _) (by decide) (by decide) kl_11 (by decide +kernel) (fun q3 => ?_)
      refine T_astore_n (pc := 12) (L' := [(3, .ref q3), (0, .ref (adc 0)), (1, vi x1), (2, .ref (adm 11))]) C dL_lineByTickets_12 rfl (Nat.le_of_ble_eq_true rfl) rfl ?_
      refine T_iconst (pc := 13) C dL_lineByTickets_13 ?_
      exact T_iret (pc := 14) ((r1.1, σ.2), 1) (fun h9 => h9) (rngL rfl) (nar_I _) (by decide) dL_lineByTickets_14
    exact TX_none
  · refine T_i2l (pc := 7) C hr1.1 dL_lineByTickets_7 ?_
    refine T_last (pc := 8) C hr1.1 dL_lineByTickets_8 ?_
    refine T_goto (pc := 9) C 15 dL_lineByTickets_9 rfl ?_
    refine T_iconst (pc := 15) C dL_lineByTickets_15 ?_
    exact T_iret (pc := 16) (((r1.1, σ.2).1, (r1.1, σ.2).2.1, r1.2.2, (r1.1, σ.2).2.2.2), 0) (fun h9 => h9) (rngL rfl) (nar_I _) (by decide) dL_lineByTickets_16
abbrev rm_L_stopByLines : Room := ⟨7, 1, 6, 115⟩
theorem cm_L_stopByLines : cmL yL_stopByLines cL_stopByLines 4 [(0, 9, 12, 27)] 3 := ⟨kl_121, kl_4, ⟨by decide +kernel, by decide +kernel, by decide +kernel⟩, kl_122⟩
def f_L_stopByLines (N : Nat) (σ : SL) (x1 : Int) : Option (SL × Int) :=
  (f_X12_stopByLines N σ.1 x1).bind fun r1 => if r1.2.1 = 0 then some (((r1.1, σ.2).1, (r1.1, σ.2).2.1, r1.2.2, (r1.1, σ.2).2.2.2), 0) else (if r1.2.1 = 4 then some ((r1.1, σ.2), 1) else none)
theorem ct_L_stopByLines {l : Launch} {cy : Nat → ClassId} {adc adm : Nat → Nat} {E : Nat → Nat → Nat} {G : va_G} {Z : vZ} {sa : Nat → Nat} (zk : Zk Z E) (zy : Zy Z E sa) (zs : ZS Z E) (zE : ZE Z) (hst : l.stackTraces = false) (N : Nat) (σ : SL) (x1 : Int) (h1 : rng x1) (hw : wfL σ) (o : SL × Int) (h : f_L_stopByLines N σ x1 = some o) : ClI Z l yL_stopByLines cL_stopByLines 4 [(0, 9, 12, 27)] rm_L_stopByLines cy adc adm E G [.ref (adc 0), vi x1, .ref (adm 11)] σ o.1 o.2 := by
  refine clI_of (by decide) (Nat.le_of_ble_eq_true rfl) hw o h (fun X A Q hZ hX htab C => ?_)
  replace hst : X.2.1.stackTraces = false := by rw [hX]; exact hst
  replace C : Cx X (YL cy adc adm E G A 4 Q) cL_stopByLines RL (some .int) rm_L_stopByLines (tyL cy) := C
  replace hZ : Zx Z X (YL cy adc adm E G A 4 Q) := hZ
  show T X (YL cy adc adm E G A 4 Q) (fun w => EndI X (YL cy adc adm E G A 4 Q) cL_stopByLines rm_L_stopByLines .int w) 0 0 0 [(0, .ref (adc 0)), (1, vi x1), (2, .ref (adm 11))] [] σ (f_L_stopByLines N σ x1)
  unfold f_L_stopByLines
  refine T_aload_n (pc := 0) C dL_stopByLines_0 rfl 2 rfl ?_
  refine T_iconst (pc := 1) C dL_stopByLines_1 ?_
  refine T_aload_n (pc := 2) C dL_stopByLines_2 rfl 0 rfl ?_
  refine T_iload_n (pc := 3) C dL_stopByLines_3 rfl 1 rfl ?_
  refine T_lxi (pc := 4) zk.1 hZ C [vi x1] [vi 0, .ref (adm 11)] (fun o h9 hw => ct_X12_stopByLines zk zy hst N σ.1 x1 h1 hw o h9) kl_120 cm_X12_stopByLines (rcc (rfl : kd 0 = 12) (by decide) (fun _ => rfl) rfl) rfl rfl (Nat.le_of_ble_eq_true rfl) (by decide) (a' := 1) (b' := 6) ⟨rfl, rfl⟩ dL_stopByLines_4 (fun r1 => ?_) (fun r1 hr1 => ?_)
  · refine TX_ite (fun e2 => ?_) ?_
    · refine TX_catch zy.2.2.2.2 zE hZ C htab 4 e2 [] [] (0, 9, 12, 27) rfl (List.forall_mem_nil _) (by decide) (by decide) kl_11 (by decide +kernel) (fun q3 => ?_)
      refine T_astore_n (pc := 12) (L' := [(3, .ref q3), (0, .ref (adc 0)), (1, vi x1), (2, .ref (adm 11))]) C dL_stopByLines_12 rfl (Nat.le_of_ble_eq_true rfl) rfl ?_
      refine T_iconst (pc := 13) C dL_stopByLines_13 ?_
      exact T_iret (pc := 14) ((r1.1, σ.2), 1) (fun h9 => h9) (rngL rfl) (nar_I _) (by decide) dL_stopByLines_14
    exact TX_none
  · refine T_i2l (pc := 7) C hr1.1 dL_stopByLines_7 ?_
    refine T_last (pc := 8) C hr1.1 dL_stopByLines_8 ?_
    refine T_goto (pc := 9) C 15 dL_stopByLines_9 rfl ?_
    refine T_iconst (pc := 15) C dL_stopByLines_15 ?_
    exact T_iret (pc := 16) (((r1.1, σ.2).1, (r1.1, σ.2).2.1, r1.2.2, (r1.1, σ.2).2.2.2), 0) (fun h9 => h9) (rngL rfl) (nar_I _) (by decide) dL_stopByLines_16
abbrev rm_L_meanPrice : Room := ⟨7, 1, 6, 102⟩
theorem cm_L_meanPrice : cmL yL_meanPrice cL_meanPrice 3 [(0, 7, 10, 146)] 2 := ⟨kl_125, kl_4, ⟨by decide +kernel, by decide +kernel, by decide +kernel⟩, kl_126⟩
def f_L_meanPrice (N : Nat) (σ : SL) : Option (SL × Int) :=
  (f_X12_meanPrice N σ.1).bind fun r1 => if r1.2.1 = 0 then some (((r1.1, σ.2).1, (r1.1, σ.2).2.1, (r1.1, σ.2).2.2.1, r1.2.2), 0) else (if r1.2.1 = 6 then some ((r1.1, σ.2), 1) else none)
theorem ct_L_meanPrice {l : Launch} {cy : Nat → ClassId} {adc adm : Nat → Nat} {E : Nat → Nat → Nat} {G : va_G} {Z : vZ} {sa : Nat → Nat} (zk : Zk Z E) (zy : Zy Z E sa) (zs : ZS Z E) (zE : ZE Z) (hst : l.stackTraces = false) (N : Nat) (σ : SL) (hw : wfL σ) (o : SL × Int) (h : f_L_meanPrice N σ = some o) : ClI Z l yL_meanPrice cL_meanPrice 3 [(0, 7, 10, 146)] rm_L_meanPrice cy adc adm E G [.ref (adc 0), .ref (adm 12)] σ o.1 o.2 := by
  refine clI_of (by decide) (Nat.le_of_ble_eq_true rfl) hw o h (fun X A Q hZ hX htab C => ?_)
  replace hst : X.2.1.stackTraces = false := by rw [hX]; exact hst
  replace C : Cx X (YL cy adc adm E G A 3 Q) cL_meanPrice RL (some .int) rm_L_meanPrice (tyL cy) := C
  replace hZ : Zx Z X (YL cy adc adm E G A 3 Q) := hZ
  show T X (YL cy adc adm E G A 3 Q) (fun w => EndI X (YL cy adc adm E G A 3 Q) cL_meanPrice rm_L_meanPrice .int w) 0 0 0 [(0, .ref (adc 0)), (1, .ref (adm 12))] [] σ (f_L_meanPrice N σ)
  unfold f_L_meanPrice
  refine T_aload_n (pc := 0) C dL_meanPrice_0 rfl 1 rfl ?_
  refine T_iconst (pc := 1) C dL_meanPrice_1 ?_
  refine T_aload_n (pc := 2) C dL_meanPrice_2 rfl 0 rfl ?_
  refine T_lxd (pc := 3) zk.1 hZ C [] [vi 0, .ref (adm 12)] (fun o h9 hw => ct_X12_meanPrice zk zy hst N σ.1 hw o h9) kl_123 cm_X12_meanPrice (rcc (rfl : kd 0 = 12) (by decide) (fun _ => rfl) rfl) rfl rfl (Nat.le_of_ble_eq_true rfl) (by decide) (a' := 1) (b' := 6) ⟨rfl, rfl⟩ dL_meanPrice_3 (fun r1 => ?_) (fun r1 => ?_)
  · refine TX_ite (fun e2 => ?_) ?_
    · refine TX_catch zy.2.2.2.2 zE hZ C htab 6 e2 [] [] (0, 7, 10, 146) rfl (List.forall_mem_nil _) (by decide) (by decide) kl_124 (by decide +kernel) (fun q3 => ?_)
      refine T_astore_n (pc := 10) (L' := [(2, .ref q3), (0, .ref (adc 0)), (1, .ref (adm 12))]) C dL_meanPrice_10 rfl (Nat.le_of_ble_eq_true rfl) rfl ?_
      refine T_iconst (pc := 11) C dL_meanPrice_11 ?_
      exact T_iret (pc := 12) ((r1.1, σ.2), 1) (fun h9 => h9) (rngL rfl) (nar_I _) (by decide) dL_meanPrice_12
    exact TX_none
  · refine T_dast (pc := 6) C dL_meanPrice_6 ?_
    refine T_goto (pc := 7) C 13 dL_meanPrice_7 rfl ?_
    refine T_iconst (pc := 13) C dL_meanPrice_13 ?_
    exact T_iret (pc := 14) (((r1.1, σ.2).1, (r1.1, σ.2).2.1, (r1.1, σ.2).2.2.1, r1.2.2), 0) (fun h9 => h9) (rngL rfl) (nar_I _) (by decide) dL_meanPrice_14
abbrev rm_L_closedShare : Room := ⟨7, 1, 6, 102⟩
theorem cm_L_closedShare : cmL yL_closedShare cL_closedShare 3 [(0, 8, 11, 146)] 2 := ⟨kl_128, kl_4, ⟨by decide +kernel, by decide +kernel, by decide +kernel⟩, kl_129⟩
def f_L_closedShare (N : Nat) (σ : SL) : Option (SL × Int) :=
  (f_X12_closedShare N σ.1).bind fun r1 => if r1.2.1 = 0 then if FP.f2d r1.2.2 &&& 0x7fffffffffffffff ≤ 0x7ff0000000000000 then some (((r1.1, σ.2).1, (r1.1, σ.2).2.1, (r1.1, σ.2).2.2.1, (FP.f2d r1.2.2)), 0) else none else (if r1.2.1 = 6 then some ((r1.1, σ.2), 1) else none)
theorem ct_L_closedShare {l : Launch} {cy : Nat → ClassId} {adc adm : Nat → Nat} {E : Nat → Nat → Nat} {G : va_G} {Z : vZ} {sa : Nat → Nat} (zk : Zk Z E) (zy : Zy Z E sa) (zs : ZS Z E) (zE : ZE Z) (hst : l.stackTraces = false) (N : Nat) (σ : SL) (hw : wfL σ) (o : SL × Int) (h : f_L_closedShare N σ = some o) : ClI Z l yL_closedShare cL_closedShare 3 [(0, 8, 11, 146)] rm_L_closedShare cy adc adm E G [.ref (adc 0), .ref (adm 12)] σ o.1 o.2 := by
  refine clI_of (by decide) (Nat.le_of_ble_eq_true rfl) hw o h (fun X A Q hZ hX htab C => ?_)
  replace hst : X.2.1.stackTraces = false := by rw [hX]; exact hst
  replace C : Cx X (YL cy adc adm E G A 3 Q) cL_closedShare RL (some .int) rm_L_closedShare (tyL cy) := C
  replace hZ : Zx Z X (YL cy adc adm E G A 3 Q) := hZ
  show T X (YL cy adc adm E G A 3 Q) (fun w => EndI X (YL cy adc adm E G A 3 Q) cL_closedShare rm_L_closedShare .int w) 0 0 0 [(0, .ref (adc 0)), (1, .ref (adm 12))] [] σ (f_L_closedShare N σ)
  unfold f_L_closedShare
  refine T_aload_n (pc := 0) C dL_closedShare_0 rfl 1 rfl ?_
  refine T_iconst (pc := 1) C dL_closedShare_1 ?_
  refine T_aload_n (pc := 2) C dL_closedShare_2 rfl 0 rfl ?_
  refine T_lxf (pc := 3) zk.1 hZ C [] [vi 0, .ref (adm 12)] (fun o h9 hw => ct_X12_closedShare zk zy hst N σ.1 hw o h9) kl_127 cm_X12_closedShare (rcc (rfl : kd 0 = 12) (by decide) (fun _ => rfl) rfl) rfl rfl (Nat.le_of_ble_eq_true rfl) (by decide) (a' := 1) (b' := 6) ⟨rfl, rfl⟩ dL_closedShare_3 (fun r1 => ?_) (fun r1 => ?_)
  · refine TX_ite (fun e2 => ?_) ?_
    · refine TX_catch zy.2.2.2.2 zE hZ C htab 6 e2 [] [] (0, 8, 11, 146) rfl (List.forall_mem_nil _) (by decide) (by decide) kl_124 (by decide +kernel) (fun q3 => ?_)
      refine T_astore_n (pc := 11) (L' := [(2, .ref q3), (0, .ref (adc 0)), (1, .ref (adm 12))]) C dL_closedShare_11 rfl (Nat.le_of_ble_eq_true rfl) rfl ?_
      refine T_iconst (pc := 12) C dL_closedShare_12 ?_
      exact T_iret (pc := 13) ((r1.1, σ.2), 1) (fun h9 => h9) (rngL rfl) (nar_I _) (by decide) dL_closedShare_13
    exact TX_none
  · refine T_guard (fun g4 => ?_)
    refine T_f2d (pc := 6) C g4 dL_closedShare_6 ?_
    refine T_dast (pc := 7) C dL_closedShare_7 ?_
    refine T_goto (pc := 8) C 14 dL_closedShare_8 rfl ?_
    refine T_iconst (pc := 14) C dL_closedShare_14 ?_
    exact T_iret (pc := 15) (((r1.1, σ.2).1, (r1.1, σ.2).2.1, (r1.1, σ.2).2.2.1, (FP.f2d r1.2.2)), 0) (fun h9 => h9) (rngL rfl) (nar_I _) (by decide) dL_closedShare_15
abbrev rm_L_type : Room := ⟨7, 1, 6, 103⟩
theorem cm_L_type : cmL yL_type cL_type 4 [(0, 9, 12, 13), (0, 9, 15, 15)] 3 := ⟨kl_131, kl_4, ⟨by decide +kernel, by decide +kernel, by decide +kernel⟩, kl_132⟩
def f_L_type (N : Nat) (σ : SL) (x1 : Int) : Option (SL × Int) :=
  (f_X12_type σ.1 x1).bind fun r1 => if r1.2.1 = 0 then some (((r1.1, σ.2).1, (r1.1, σ.2).2.1, r1.2.2, (r1.1, σ.2).2.2.2), 0) else (if r1.2.1 = 2 then some ((r1.1, σ.2), 1) else (if r1.2.1 = 3 then some ((r1.1, σ.2), 2) else none))
theorem ct_L_type {l : Launch} {cy : Nat → ClassId} {adc adm : Nat → Nat} {E : Nat → Nat → Nat} {G : va_G} {Z : vZ} {sa : Nat → Nat} (zk : Zk Z E) (zy : Zy Z E sa) (zs : ZS Z E) (zE : ZE Z) (hst : l.stackTraces = false) (N : Nat) (σ : SL) (x1 : Int) (h1 : 0 ≤ x1 ∧ x1 < 65536) (hw : wfL σ) (o : SL × Int) (h : f_L_type N σ x1 = some o) : ClI Z l yL_type cL_type 4 [(0, 9, 12, 13), (0, 9, 15, 15)] rm_L_type cy adc adm E G [.ref (adc 0), vi x1, .ref (adm 11)] σ o.1 o.2 := by
  refine clI_of (by decide) (Nat.le_of_ble_eq_true rfl) hw o h (fun X A Q hZ hX htab C => ?_)
  replace hst : X.2.1.stackTraces = false := by rw [hX]; exact hst
  replace C : Cx X (YL cy adc adm E G A 4 Q) cL_type RL (some .int) rm_L_type (tyL cy) := C
  replace hZ : Zx Z X (YL cy adc adm E G A 4 Q) := hZ
  show T X (YL cy adc adm E G A 4 Q) (fun w => EndI X (YL cy adc adm E G A 4 Q) cL_type rm_L_type .int w) 0 0 0 [(0, .ref (adc 0)), (1, vi x1), (2, .ref (adm 11))] [] σ (f_L_type N σ x1)
  unfold f_L_type
  refine T_aload_n (pc := 0) C dL_type_0 rfl 2 rfl ?_
  refine T_iconst (pc := 1) C dL_type_1 ?_
  refine T_aload_n (pc := 2) C dL_type_2 rfl 0 rfl ?_
  refine T_iload_n (pc := 3) C dL_type_3 rfl 1 rfl ?_
  refine T_lxi (pc := 4) zk.1 hZ C [vi x1] [vi 0, .ref (adm 11)] (fun o h9 hw => ct_X12_type zk zy hst σ.1 x1 h1 hw o h9) kl_130 cm_X12_type (rcc (rfl : kd 0 = 12) (by decide) (fun _ => rfl) rfl) rfl rfl (Nat.le_of_ble_eq_true rfl) (by decide) (a' := 1) (b' := 6) ⟨rfl, rfl⟩ dL_type_4 (fun r1 => ?_) (fun r1 hr1 => ?_)
  · refine TX_ite (fun e2 => ?_) ?_
    · refine TX_catch zy.2.2.2.2 zE hZ C htab 2 e2 [] [(0, 9, 15, 15)] (0, 9, 12, 13) rfl (List.forall_mem_nil _) (by decide) (by decide) kl_1 (by decide +kernel) (fun q3 => ?_)
      refine T_astore_n (pc := 12) (L' := [(3, .ref q3), (0, .ref (adc 0)), (1, vi x1), (2, .ref (adm 11))]) C dL_type_12 rfl (Nat.le_of_ble_eq_true rfl) rfl ?_
      refine T_iconst (pc := 13) C dL_type_13 ?_
      exact T_iret (pc := 14) ((r1.1, σ.2), 1) (fun h9 => h9) (rngL rfl) (nar_I _) (by decide) dL_type_14
    refine TX_ite (fun e4 => ?_) ?_
    · refine TX_catch zy.2.2.2.2 zE hZ C htab 3 e4 [(0, 9, 12, 13)] [] (0, 9, 15, 15) rfl (List.forall_mem_cons.mpr ⟨⟨by decide, 2, kl_1, by decide⟩, (List.forall_mem_nil _)⟩) (by decide) (by decide) kl_2 (by decide +kernel) (fun q5 => ?_)
      refine T_astore_n (pc := 15) (L' := [(3, .ref q5), (0, .ref (adc 0)), (1, vi x1), (2, .ref (adm 11))]) C dL_type_15 rfl (Nat.le_of_ble_eq_true rfl) rfl ?_
      refine T_iconst (pc := 16) C dL_type_16 ?_
      exact T_iret (pc := 17) ((r1.1, σ.2), 2) (fun h9 => h9) (rngL rfl) (nar_I _) (by decide) dL_type_17
    exact TX_none
  · refine T_i2l (pc := 7) C hr1.1 dL_type_7 ?_
    refine T_last (pc := 8) C hr1.1 dL_type_8 ?_
    refine T_goto (pc := 9) C 18 dL_type_9 rfl ?_
    refine T_iconst (pc := 18) C dL_type_18 ?_
    exact T_iret (pc := 19) (((r1.1, σ.2).1, (r1.1, σ.2).2.1, r1.2.2, (r1.1, σ.2).2.2.2), 0) (fun h9 => h9) (rngL rfl) (nar_I _) (by decide) dL_type_19
abbrev rm_L_runScript : Room := ⟨8, 1, 6, 233⟩
theorem cm_L_runScript : cmL yL_runScript cL_runScript 3 [(0, 8, 11, 13), (0, 8, 14, 15)] 2 := ⟨kl_134, kl_4, ⟨by decide +kernel, by decide +kernel, by decide +kernel⟩, kl_135⟩
def f_L_runScript (N : Nat) (σ : SL) : Option (SL × Int) :=
  (f_X12_runScript N σ.1).bind fun r1 => if r1.2.1 = 0 then some (((r1.1, σ.2).1, (r1.1, σ.2).2.1, r1.2.2, (r1.1, σ.2).2.2.2), 0) else (if r1.2.1 = 2 then some ((r1.1, σ.2), 1) else (if r1.2.1 = 3 then some ((r1.1, σ.2), 2) else none))
theorem ct_L_runScript {l : Launch} {cy : Nat → ClassId} {adc adm : Nat → Nat} {E : Nat → Nat → Nat} {G : va_G} {Z : vZ} {sa : Nat → Nat} (zk : Zk Z E) (zy : Zy Z E sa) (zs : ZS Z E) (zE : ZE Z) (hst : l.stackTraces = false) (N : Nat) (σ : SL) (hw : wfL σ) (o : SL × Int) (h : f_L_runScript N σ = some o) : ClI Z l yL_runScript cL_runScript 3 [(0, 8, 11, 13), (0, 8, 14, 15)] rm_L_runScript cy adc adm E G [.ref (adc 0), .ref (adm 11)] σ o.1 o.2 := by
  refine clI_of (by decide) (Nat.le_of_ble_eq_true rfl) hw o h (fun X A Q hZ hX htab C => ?_)
  replace hst : X.2.1.stackTraces = false := by rw [hX]; exact hst
  replace C : Cx X (YL cy adc adm E G A 3 Q) cL_runScript RL (some .int) rm_L_runScript (tyL cy) := C
  replace hZ : Zx Z X (YL cy adc adm E G A 3 Q) := hZ
  show T X (YL cy adc adm E G A 3 Q) (fun w => EndI X (YL cy adc adm E G A 3 Q) cL_runScript rm_L_runScript .int w) 0 0 0 [(0, .ref (adc 0)), (1, .ref (adm 11))] [] σ (f_L_runScript N σ)
  unfold f_L_runScript
  refine T_aload_n (pc := 0) C dL_runScript_0 rfl 1 rfl ?_
  refine T_iconst (pc := 1) C dL_runScript_1 ?_
  refine T_aload_n (pc := 2) C dL_runScript_2 rfl 0 rfl ?_
  refine T_lxi (pc := 3) zk.1 hZ C [] [vi 0, .ref (adm 11)] (fun o h9 hw => ct_X12_runScript zk zy zs hst N σ.1 hw o h9) kl_133 cm_X12_runScript (rcc (rfl : kd 0 = 12) (by decide) (fun _ => rfl) rfl) rfl rfl (Nat.le_of_ble_eq_true rfl) (by decide) (a' := 1) (b' := 6) ⟨rfl, rfl⟩ dL_runScript_3 (fun r1 => ?_) (fun r1 hr1 => ?_)
  · refine TX_ite (fun e2 => ?_) ?_
    · refine TX_catch zy.2.2.2.2 zE hZ C htab 2 e2 [] [(0, 8, 14, 15)] (0, 8, 11, 13) rfl (List.forall_mem_nil _) (by decide) (by decide) kl_1 (by decide +kernel) (fun q3 => ?_)
      refine T_astore_n (pc := 11) (L' := [(2, .ref q3), (0, .ref (adc 0)), (1, .ref (adm 11))]) C dL_runScript_11 rfl (Nat.le_of_ble_eq_true rfl) rfl ?_
      refine T_iconst (pc := 12) C dL_runScript_12 ?_
      exact T_iret (pc := 13) ((r1.1, σ.2), 1) (fun h9 => h9) (rngL rfl) (nar_I _) (by decide) dL_runScript_13
    refine TX_ite (fun e4 => ?_) ?_
    · refine TX_catch zy.2.2.2.2 zE hZ C htab 3 e4 [(0, 8, 11, 13)] [] (0, 8, 14, 15) rfl (List.forall_mem_cons.mpr ⟨⟨by decide, 2, kl_1, by decide⟩, (List.forall_mem_nil _)⟩) (by decide) (by decide) kl_2 (by decide +kernel) (fun q5 => ?_)
      refine T_astore_n (pc := 14) (L' := [(2, .ref q5), (0, .ref (adc 0)), (1, .ref (adm 11))]) C dL_runScript_14 rfl (Nat.le_of_ble_eq_true rfl) rfl ?_
      refine T_iconst (pc := 15) C dL_runScript_15 ?_
      exact T_iret (pc := 16) ((r1.1, σ.2), 2) (fun h9 => h9) (rngL rfl) (nar_I _) (by decide) dL_runScript_16
    exact TX_none
  · refine T_i2l (pc := 6) C hr1.1 dL_runScript_6 ?_
    refine T_last (pc := 7) C hr1.1 dL_runScript_7 ?_
    refine T_goto (pc := 8) C 17 dL_runScript_8 rfl ?_
    refine T_iconst (pc := 17) C dL_runScript_17 ?_
    exact T_iret (pc := 18) (((r1.1, σ.2).1, (r1.1, σ.2).2.1, r1.2.2, (r1.1, σ.2).2.2.2), 0) (fun h9 => h9) (rngL rfl) (nar_I _) (by decide) dL_runScript_18
abbrev rm_L_errorPosition : Room := ⟨7, 1, 6, 102⟩
theorem cm_L_errorPosition : cmL yL_errorPosition cL_errorPosition 3 [(0, 8, 11, 27)] 2 := ⟨kl_137, kl_4, ⟨by decide +kernel, by decide +kernel, by decide +kernel⟩, kl_138⟩
def f_L_errorPosition (N : Nat) (σ : SL) : Option (SL × Int) :=
  (f_X12_errorPosition σ.1).bind fun r1 => if r1.2.1 = 0 then some (((r1.1, σ.2).1, (r1.1, σ.2).2.1, r1.2.2, (r1.1, σ.2).2.2.2), 0) else (if r1.2.1 = 4 then some ((r1.1, σ.2), 1) else none)
theorem ct_L_errorPosition {l : Launch} {cy : Nat → ClassId} {adc adm : Nat → Nat} {E : Nat → Nat → Nat} {G : va_G} {Z : vZ} {sa : Nat → Nat} (zk : Zk Z E) (zy : Zy Z E sa) (zs : ZS Z E) (zE : ZE Z) (hst : l.stackTraces = false) (N : Nat) (σ : SL) (hw : wfL σ) (o : SL × Int) (h : f_L_errorPosition N σ = some o) : ClI Z l yL_errorPosition cL_errorPosition 3 [(0, 8, 11, 27)] rm_L_errorPosition cy adc adm E G [.ref (adc 0), .ref (adm 11)] σ o.1 o.2 := by
  refine clI_of (by decide) (Nat.le_of_ble_eq_true rfl) hw o h (fun X A Q hZ hX htab C => ?_)
  replace hst : X.2.1.stackTraces = false := by rw [hX]; exact hst
  replace C : Cx X (YL cy adc adm E G A 3 Q) cL_errorPosition RL (some .int) rm_L_errorPosition (tyL cy) := C
  replace hZ : Zx Z X (YL cy adc adm E G A 3 Q) := hZ
  show T X (YL cy adc adm E G A 3 Q) (fun w => EndI X (YL cy adc adm E G A 3 Q) cL_errorPosition rm_L_errorPosition .int w) 0 0 0 [(0, .ref (adc 0)), (1, .ref (adm 11))] [] σ (f_L_errorPosition N σ)
  unfold f_L_errorPosition
  refine T_aload_n (pc := 0) C dL_errorPosition_0 rfl 1 rfl ?_
  refine T_iconst (pc := 1) C dL_errorPosition_1 ?_
  refine T_aload_n (pc := 2) C dL_errorPosition_2 rfl 0 rfl ?_
  refine T_lxi (pc := 3) zk.1 hZ C [] [vi 0, .ref (adm 11)] (fun o h9 hw => ct_X12_errorPosition zk zy hst σ.1 hw o h9) kl_136 cm_X12_errorPosition (rcc (rfl : kd 0 = 12) (by decide) (fun _ => rfl) rfl) rfl rfl (Nat.le_of_ble_eq_true rfl) (by decide) (a' := 1) (b' := 6) ⟨rfl, rfl⟩ dL_errorPosition_3 (fun r1 => ?_) (fun r1 hr1 => ?_)
  · refine TX_ite (fun e2 => ?_) ?_
    · refine TX_catch zy.2.2.2.2 zE hZ C htab 4 e2 [] [] (0, 8, 11, 27) rfl (List.forall_mem_nil _) (by decide) (by decide) kl_11 (by decide +kernel) (fun q3 => ?_)
      refine T_astore_n (pc := 11) (L' := [(2, .ref q3), (0, .ref (adc 0)), (1, .ref (adm 11))]) C dL_errorPosition_11 rfl (Nat.le_of_ble_eq_true rfl) rfl ?_
      refine T_iconst (pc := 12) C dL_errorPosition_12 ?_
      exact T_iret (pc := 13) ((r1.1, σ.2), 1) (fun h9 => h9) (rngL rfl) (nar_I _) (by decide) dL_errorPosition_13
    exact TX_none
  · refine T_i2l (pc := 6) C hr1.1 dL_errorPosition_6 ?_
    refine T_last (pc := 7) C hr1.1 dL_errorPosition_7 ?_
    refine T_goto (pc := 8) C 14 dL_errorPosition_8 rfl ?_
    refine T_iconst (pc := 14) C dL_errorPosition_14 ?_
    exact T_iret (pc := 15) (((r1.1, σ.2).1, (r1.1, σ.2).2.1, r1.2.2, (r1.1, σ.2).2.2.2), 0) (fun h9 => h9) (rngL rfl) (nar_I _) (by decide) dL_errorPosition_15
abbrev rm_L_failedCommand : Room := ⟨7, 1, 6, 102⟩
theorem cm_L_failedCommand : cmL yL_failedCommand cL_failedCommand 3 [(0, 8, 11, 27)] 2 := ⟨kl_140, kl_4, ⟨by decide +kernel, by decide +kernel, by decide +kernel⟩, kl_141⟩
def f_L_failedCommand (N : Nat) (σ : SL) : Option (SL × Int) :=
  (f_X12_failedCommand σ.1).bind fun r1 => if r1.2.1 = 0 then some (((r1.1, σ.2).1, (r1.1, σ.2).2.1, r1.2.2, (r1.1, σ.2).2.2.2), 0) else (if r1.2.1 = 4 then some ((r1.1, σ.2), 1) else none)
theorem ct_L_failedCommand {l : Launch} {cy : Nat → ClassId} {adc adm : Nat → Nat} {E : Nat → Nat → Nat} {G : va_G} {Z : vZ} {sa : Nat → Nat} (zk : Zk Z E) (zy : Zy Z E sa) (zs : ZS Z E) (zE : ZE Z) (hst : l.stackTraces = false) (N : Nat) (σ : SL) (hw : wfL σ) (o : SL × Int) (h : f_L_failedCommand N σ = some o) : ClI Z l yL_failedCommand cL_failedCommand 3 [(0, 8, 11, 27)] rm_L_failedCommand cy adc adm E G [.ref (adc 0), .ref (adm 11)] σ o.1 o.2 := by
  refine clI_of (by decide) (Nat.le_of_ble_eq_true rfl) hw o h (fun X A Q hZ hX htab C => ?_)
  replace hst : X.2.1.stackTraces = false := by rw [hX]; exact hst
  replace C : Cx X (YL cy adc adm E G A 3 Q) cL_failedCommand RL (some .int) rm_L_failedCommand (tyL cy) := C
  replace hZ : Zx Z X (YL cy adc adm E G A 3 Q) := hZ
  show T X (YL cy adc adm E G A 3 Q) (fun w => EndI X (YL cy adc adm E G A 3 Q) cL_failedCommand rm_L_failedCommand .int w) 0 0 0 [(0, .ref (adc 0)), (1, .ref (adm 11))] [] σ (f_L_failedCommand N σ)
  unfold f_L_failedCommand
  refine T_aload_n (pc := 0) C dL_failedCommand_0 rfl 1 rfl ?_
  refine T_iconst (pc := 1) C dL_failedCommand_1 ?_
  refine T_aload_n (pc := 2) C dL_failedCommand_2 rfl 0 rfl ?_
  refine T_lxi (pc := 3) zk.1 hZ C [] [vi 0, .ref (adm 11)] (fun o h9 hw => ct_X12_failedCommand zk zy hst σ.1 hw o h9) kl_139 cm_X12_failedCommand (rcc (rfl : kd 0 = 12) (by decide) (fun _ => rfl) rfl) rfl rfl (Nat.le_of_ble_eq_true rfl) (by decide) (a' := 1) (b' := 6) ⟨rfl, rfl⟩ dL_failedCommand_3 (fun r1 => ?_) (fun r1 hr1 => ?_)
  · refine TX_ite (fun e2 => ?_) ?_
    · refine TX_catch zy.2.2.2.2 zE hZ C htab 4 e2 [] [] (0, 8, 11, 27) rfl (List.forall_mem_nil _) (by decide) (by decide) kl_11 (by decide +kernel) (fun q3 => ?_)
      refine T_astore_n (pc := 11) (L' := [(2, .ref q3), (0, .ref (adc 0)), (1, .ref (adm 11))]) C dL_failedCommand_11 rfl (Nat.le_of_ble_eq_true rfl) rfl ?_
      refine T_iconst (pc := 12) C dL_failedCommand_12 ?_
      exact T_iret (pc := 13) ((r1.1, σ.2), 1) (fun h9 => h9) (rngL rfl) (nar_I _) (by decide) dL_failedCommand_13
    exact TX_none
  · refine T_i2l (pc := 6) C hr1.1 dL_failedCommand_6 ?_
    refine T_last (pc := 7) C hr1.1 dL_failedCommand_7 ?_
    refine T_goto (pc := 8) C 14 dL_failedCommand_8 rfl ?_
    refine T_iconst (pc := 14) C dL_failedCommand_14 ?_
    exact T_iret (pc := 15) (((r1.1, σ.2).1, (r1.1, σ.2).2.1, r1.2.2, (r1.1, σ.2).2.2.2), 0) (fun h9 => h9) (rngL rfl) (nar_I _) (by decide) dL_failedCommand_15
abbrev rm_L_undo : Room := ⟨7, 1, 6, 148⟩
theorem cm_L_undo : cmL yL_undo cL_undo 3 [(0, 8, 11, 15)] 2 := ⟨kl_143, kl_4, ⟨by decide +kernel, by decide +kernel, by decide +kernel⟩, kl_144⟩
def f_L_undo (N : Nat) (σ : SL) : Option (SL × Int) :=
  (f_X12_undo N σ.1).bind fun r1 => if r1.2.1 = 0 then some (((r1.1, σ.2).1, (r1.1, σ.2).2.1, r1.2.2, (r1.1, σ.2).2.2.2), 0) else (if r1.2.1 = 3 then some ((r1.1, σ.2), 1) else none)
theorem ct_L_undo {l : Launch} {cy : Nat → ClassId} {adc adm : Nat → Nat} {E : Nat → Nat → Nat} {G : va_G} {Z : vZ} {sa : Nat → Nat} (zk : Zk Z E) (zy : Zy Z E sa) (zs : ZS Z E) (zE : ZE Z) (hst : l.stackTraces = false) (N : Nat) (σ : SL) (hw : wfL σ) (o : SL × Int) (h : f_L_undo N σ = some o) : ClI Z l yL_undo cL_undo 3 [(0, 8, 11, 15)] rm_L_undo cy adc adm E G [.ref (adc 0), .ref (adm 11)] σ o.1 o.2 := by
  refine clI_of (by decide) (Nat.le_of_ble_eq_true rfl) hw o h (fun X A Q hZ hX htab C => ?_)
  replace hst : X.2.1.stackTraces = false := by rw [hX]; exact hst
  replace C : Cx X (YL cy adc adm E G A 3 Q) cL_undo RL (some .int) rm_L_undo (tyL cy) := C
  replace hZ : Zx Z X (YL cy adc adm E G A 3 Q) := hZ
  show T X (YL cy adc adm E G A 3 Q) (fun w => EndI X (YL cy adc adm E G A 3 Q) cL_undo rm_L_undo .int w) 0 0 0 [(0, .ref (adc 0)), (1, .ref (adm 11))] [] σ (f_L_undo N σ)
  unfold f_L_undo
  refine T_aload_n (pc := 0) C dL_undo_0 rfl 1 rfl ?_
  refine T_iconst (pc := 1) C dL_undo_1 ?_
  refine T_aload_n (pc := 2) C dL_undo_2 rfl 0 rfl ?_
  refine T_lxi (pc := 3) zk.1 hZ C [] [vi 0, .ref (adm 11)] (fun o h9 hw => ct_X12_undo zk zy hst N σ.1 hw o h9) kl_142 cm_X12_undo (rcc (rfl : kd 0 = 12) (by decide) (fun _ => rfl) rfl) rfl rfl (Nat.le_of_ble_eq_true rfl) (by decide) (a' := 1) (b' := 6) ⟨rfl, rfl⟩ dL_undo_3 (fun r1 => ?_) (fun r1 hr1 => ?_)
  · refine TX_ite (fun e2 => ?_) ?_
    · refine TX_catch zy.2.2.2.2 zE hZ C htab 3 e2 [] [] (0, 8, 11, 15) rfl (List.forall_mem_nil _) (by decide) (by decide) kl_2 (by decide +kernel) (fun q3 => ?_)
      refine T_astore_n (pc := 11) (L' := [(2, .ref q3), (0, .ref (adc 0)), (1, .ref (adm 11))]) C dL_undo_11 rfl (Nat.le_of_ble_eq_true rfl) rfl ?_
      refine T_iconst (pc := 12) C dL_undo_12 ?_
      exact T_iret (pc := 13) ((r1.1, σ.2), 1) (fun h9 => h9) (rngL rfl) (nar_I _) (by decide) dL_undo_13
    exact TX_none
  · refine T_i2l (pc := 6) C hr1.1 dL_undo_6 ?_
    refine T_last (pc := 7) C hr1.1 dL_undo_7 ?_
    refine T_goto (pc := 8) C 14 dL_undo_8 rfl ?_
    refine T_iconst (pc := 14) C dL_undo_14 ?_
    exact T_iret (pc := 15) (((r1.1, σ.2).1, (r1.1, σ.2).2.1, r1.2.2, (r1.1, σ.2).2.2.2), 0) (fun h9 => h9) (rngL rfl) (nar_I _) (by decide) dL_undo_15
abbrev rm_L_restore : Room := ⟨7, 1, 6, 127⟩
theorem cm_L_restore : cmL yL_restore cL_restore 3 [(0, 8, 11, 15)] 2 := ⟨kl_146, kl_4, ⟨by decide +kernel, by decide +kernel, by decide +kernel⟩, kl_147⟩
def f_L_restore (N : Nat) (σ : SL) : Option (SL × Int) :=
  (f_X12_restore N σ.1).bind fun r1 => if r1.2.1 = 0 then some (((r1.1, σ.2).1, (r1.1, σ.2).2.1, r1.2.2, (r1.1, σ.2).2.2.2), 0) else (if r1.2.1 = 3 then some ((r1.1, σ.2), 1) else none)
theorem ct_L_restore {l : Launch} {cy : Nat → ClassId} {adc adm : Nat → Nat} {E : Nat → Nat → Nat} {G : va_G} {Z : vZ} {sa : Nat → Nat} (zk : Zk Z E) (zy : Zy Z E sa) (zs : ZS Z E) (zE : ZE Z) (hst : l.stackTraces = false) (N : Nat) (σ : SL) (hw : wfL σ) (o : SL × Int) (h : f_L_restore N σ = some o) : ClI Z l yL_restore cL_restore 3 [(0, 8, 11, 15)] rm_L_restore cy adc adm E G [.ref (adc 0), .ref (adm 11)] σ o.1 o.2 := by
  refine clI_of (by decide) (Nat.le_of_ble_eq_true rfl) hw o h (fun X A Q hZ hX htab C => ?_)
  replace hst : X.2.1.stackTraces = false := by rw [hX]; exact hst
  replace C : Cx X (YL cy adc adm E G A 3 Q) cL_restore RL (some .int) rm_L_restore (tyL cy) := C
  replace hZ : Zx Z X (YL cy adc adm E G A 3 Q) := hZ
  show T X (YL cy adc adm E G A 3 Q) (fun w => EndI X (YL cy adc adm E G A 3 Q) cL_restore rm_L_restore .int w) 0 0 0 [(0, .ref (adc 0)), (1, .ref (adm 11))] [] σ (f_L_restore N σ)
  unfold f_L_restore
  refine T_aload_n (pc := 0) C dL_restore_0 rfl 1 rfl ?_
  refine T_iconst (pc := 1) C dL_restore_1 ?_
  refine T_aload_n (pc := 2) C dL_restore_2 rfl 0 rfl ?_
  refine T_lxi (pc := 3) zk.1 hZ C [] [vi 0, .ref (adm 11)] (fun o h9 hw => ct_X12_restore zk zy hst N σ.1 hw o h9) kl_145 cm_X12_restore (rcc (rfl : kd 0 = 12) (by decide) (fun _ => rfl) rfl) rfl rfl (Nat.le_of_ble_eq_true rfl) (by decide) (a' := 1) (b' := 6) ⟨rfl, rfl⟩ dL_restore_3 (fun r1 => ?_) (fun r1 hr1 => ?_)
  · refine TX_ite (fun e2 => ?_) ?_
    · refine TX_catch zy.2.2.2.2 zE hZ C htab 3 e2 [] [] (0, 8, 11, 15) rfl (List.forall_mem_nil _) (by decide) (by decide) kl_2 (by decide +kernel) (fun q3 => ?_)
      refine T_astore_n (pc := 11) (L' := [(2, .ref q3), (0, .ref (adc 0)), (1, .ref (adm 11))]) C dL_restore_11 rfl (Nat.le_of_ble_eq_true rfl) rfl ?_
      refine T_iconst (pc := 12) C dL_restore_12 ?_
      exact T_iret (pc := 13) ((r1.1, σ.2), 1) (fun h9 => h9) (rngL rfl) (nar_I _) (by decide) dL_restore_13
    exact TX_none
  · refine T_i2l (pc := 6) C hr1.1 dL_restore_6 ?_
    refine T_last (pc := 7) C hr1.1 dL_restore_7 ?_
    refine T_goto (pc := 8) C 14 dL_restore_8 rfl ?_
    refine T_iconst (pc := 14) C dL_restore_14 ?_
    exact T_iret (pc := 15) (((r1.1, σ.2).1, (r1.1, σ.2).2.1, r1.2.2, (r1.1, σ.2).2.2.2), 0) (fun h9 => h9) (rngL rfl) (nar_I _) (by decide) dL_restore_15
