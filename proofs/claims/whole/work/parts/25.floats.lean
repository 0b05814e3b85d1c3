theorem kf_0 : Cond.code yX13_meanPrice cX13_meanPrice 3 (some .double) ∈ lwG := lwG_of (tb_10 (List.mem_of_getElem? (i := 155) (by decide +kernel))) (by decide +kernel)
theorem kf_1 : Cond.code yX13_closedShare cX13_closedShare 3 (some .float) ∈ lwG := lwG_of (tb_10 (List.mem_of_getElem? (i := 159) (by decide +kernel))) (by decide +kernel)
theorem kf_2 : Cond.fieldLink RX13 7 "RingTransitModel" "now" "[I" ∈ lwG := lwG_of (tb_8 (List.mem_of_getElem? (i := 106) (by decide +kernel))) (by decide +kernel)
theorem kf_3 : Cond.methodLink RX13 217 yX13_checked ∈ lwG := lwG_of (tb_9 (List.mem_of_getElem? (i := 172) (by decide +kernel))) (by decide +kernel)
theorem kf_4 : Cond.methodLink RX13 147 yX13_t ∈ lwG := lwG_of (tb_9 (List.mem_of_getElem? (i := 40) (by decide +kernel))) (by decide +kernel)
theorem kf_5 : Cond.initialized RX13 ∈ lwG := lwG_of (tb_1 (List.mem_of_getElem? (i := 17) (by decide +kernel))) (by decide +kernel)
theorem kf_6 : Cond.instanceMethod yX13_meanPrice ∈ lwG := lwG_of (tb_10 (List.mem_of_getElem? (i := 153) (by decide +kernel))) (by decide +kernel)
theorem kf_7 : Cond.selects yX13_meanPrice.cls yX13_meanPrice yX13_meanPrice ∈ lwG := lwG_of (tb_10 (List.mem_of_getElem? (i := 154) (by decide +kernel))) (by decide +kernel)
theorem kf_8 : Cond.methodLink RX13 224 yX13_isOpen ∈ lwG := lwG_of (tb_9 (List.mem_of_getElem? (i := 184) (by decide +kernel))) (by decide +kernel)
theorem kf_9 : Cond.instanceMethod yX13_closedShare ∈ lwG := lwG_of (tb_10 (List.mem_of_getElem? (i := 157) (by decide +kernel))) (by decide +kernel)
theorem kf_10 : Cond.selects yX13_closedShare.cls yX13_closedShare yX13_closedShare ∈ lwG := lwG_of (tb_10 (List.mem_of_getElem? (i := 158) (by decide +kernel))) (by decide +kernel)
abbrev rm_X13_meanPrice : Room := ⟨1, 0, 0, 22⟩
theorem cm_X13_meanPrice : cmV yX13_meanPrice cX13_meanPrice 3 (some .double) 0 := ⟨kf_0, kf_5, ⟨by decide +kernel, by decide +kernel, by decide +kernel⟩, kf_6, kf_7⟩
def f_X13_meanPrice_27 (σ : Sm) : Nat → Int → Int → Option (Int)
  | 0, _, _ => none
  | n + 1, x1, x2 => (if (σ 1 3) ≤ x2 then some x1 else (f_X13_t σ x2 5).bind fun v18 => bl (x1 + v18) fun v19 => if rng v19 then f_X13_meanPrice_27 σ n v19 (x2 + 1) else none)
theorem lp_X13_meanPrice_27 {X : vjX} {A : Nat → Prop} {Q : State → Prop} {cy : ClassId} {ad : Nat → Nat} {G : va_G} (C : Cx X (Ym cy ad G A 3 Q) cX13_meanPrice RX13 (some .double) rm_X13_meanPrice (tym cy)) (σ : Sm) : ∀ (n : Nat) (x1 : Int) (x2 : Int) (h1 : rng x1) (h2 : rng x2), T X (Ym cy ad G A 3 Q) (fun (q : Int) => rng q → J X (Ym cy ad G A 3 Q) 0 0 52 [(0, .ref (ad 0)), (1, vi q)] [] σ) 0 0 27 [(0, .ref (ad 0)), (1, vi x1), (2, vi x2)] [] σ (f_X13_meanPrice_27 σ n x1 x2) := by
  intro n
  induction n with
  | zero => intro x1 x2 h1 h2; exact T_none
  | succ n ih =>
    intro x1 x2 h1 h2
    rw [f_X13_meanPrice_27]
    refine T_iload_n (pc := 27) C dX13_meanPrice_27 rfl 2 rfl ?_
    refine T_aload_n (pc := 28) C dX13_meanPrice_28 rfl 0 rfl ?_
    refine Tm_getA (pc := 29) C 0 1 (by decide) (fun _ => rfl) kf_2 rfl dX13_meanPrice_29 ?_
    refine T_iconst (pc := 32) C dX13_meanPrice_32 ?_
    refine Tm_iald (pc := 33) C 1 3 ⟨by decide, by decide⟩ ⟨by decide, by decide⟩ rfl dX13_meanPrice_33 (fun r16 => ?_)
    refine T_icmp_ge (pc := 34) C 52 dX13_meanPrice_34 rfl h2 r16 (fun c17 => ?_) (fun c17 => ?_)
    · refine T_sub (L' := [(0, .ref (ad 0)), (1, vi x1)]) [0, 1] rfl ?_
      exact T_exit (fun h9 => h9 h1)
    · refine T_iload_n (pc := 37) C dX13_meanPrice_37 rfl 1 rfl ?_
      refine T_aload_n (pc := 38) C dX13_meanPrice_38 rfl 0 rfl ?_
      refine T_iload_n (pc := 39) C dX13_meanPrice_39 rfl 2 rfl ?_
      refine T_iconst (pc := 40) C dX13_meanPrice_40 ?_
      refine T_callVip (pc := 41) C [vi x2, vi 5] [vi x1] (fun o h9 hw => ct_X13_t σ x2 5 h2 (rngL rfl) hw o h9) kf_4 cm_X13_t rcm rfl rfl (Nat.le_of_ble_eq_true rfl) (by decide) (a' := 0) (b' := 0) ⟨rfl, rfl⟩ dX13_meanPrice_41 (fun v18 hv18 => ?_)
      refine T_iadd (pc := 44) C dX13_meanPrice_44 ?_
      refine T_blN (fun v19 => ?_)
      refine T_istore_n (pc := 45) (L' := [(1, vi v19), (0, .ref (ad 0)), (2, vi x2)]) C dX13_meanPrice_45 rfl (Nat.le_of_ble_eq_true rfl) rfl ?_
      refine T_iinc (pc := 46) (L' := [(2, vi (x2 + 1)), (1, vi v19), (0, .ref (ad 0))]) C dX13_meanPrice_46 (Nat.le_of_ble_eq_true rfl) 2 rfl rfl ?_
      refine T_goto (pc := 49) C 27 dX13_meanPrice_49 rfl ?_
      refine T_sub (L' := [(0, .ref (ad 0)), (1, vi v19), (2, vi (x2 + 1))]) [2, 1, 0] rfl ?_
      refine T_guard (fun g20 => ?_)
      exact ih v19 (x2 + 1) g20 (rng_inc c17 h2 r16)
def f_X13_meanPrice (N : Nat) (σ : Sm) : Option (Sm × UInt64) :=
  (if (σ 1 3) ≤ 0 then (f_X13_checked σ 0).bind fun v3 => (if v3.2 ≤ 0 then (f_X13_meanPrice_27 v3.1 N 0 0).bind fun q21 => if 0 ≤ q21 ∧ q21 < 320 ∧ 0 < (v3.1 1 3) ∧ (v3.1 1 3) < 17 then some (v3.1, (dqv q21 (v3.1 1 3))) else none else some (v3.1, FP.dconst0)) else (f_X13_checked σ 1).bind fun v24 => (if v24.2 ≤ 0 then (f_X13_meanPrice_27 v24.1 N 0 0).bind fun q26 => if 0 ≤ q26 ∧ q26 < 320 ∧ 0 < (v24.1 1 3) ∧ (v24.1 1 3) < 17 then some (v24.1, (dqv q26 (v24.1 1 3))) else none else some (v24.1, FP.dconst0)))
theorem ct_X13_meanPrice {l : Launch} {cy : ClassId} {ad : Nat → Nat} {G : va_G} (N : Nat) (σ : Sm) (hw : wfm σ) (o : Sm × UInt64) (h : f_X13_meanPrice N σ = some o) : CtD l yX13_meanPrice cX13_meanPrice 3 (some .double) rm_X13_meanPrice (wlm cy ad) wfm G (tym cy) [.ref (ad 0)] σ o.1 o.2 := by
  refine ctD_of (by decide) (Nat.le_of_ble_eq_true rfl) hw o o h (fun X Y w => EndD X Y cX13_meanPrice rm_X13_meanPrice w) (fun _ _ h => h) (fun X A Q hX C => ?_)
  replace C : Cx X (Ym cy ad G A 3 Q) cX13_meanPrice RX13 (some .double) rm_X13_meanPrice (tym cy) := C
  show T X (Ym cy ad G A 3 Q) (fun w => EndD X (Ym cy ad G A 3 Q) cX13_meanPrice rm_X13_meanPrice w) 0 0 0 [(0, .ref (ad 0))] [] σ (f_X13_meanPrice N σ)
  unfold f_X13_meanPrice
  refine T_aload_n (pc := 0) C dX13_meanPrice_0 rfl 0 rfl ?_
  refine T_aload_n (pc := 1) C dX13_meanPrice_1 rfl 0 rfl ?_
  refine Tm_getA (pc := 2) C 0 1 (by decide) (fun _ => rfl) kf_2 rfl dX13_meanPrice_2 ?_
  refine T_iconst (pc := 5) C dX13_meanPrice_5 ?_
  refine Tm_iald (pc := 6) C 1 3 ⟨by decide, by decide⟩ ⟨by decide, by decide⟩ rfl dX13_meanPrice_6 (fun r1 => ?_)
  refine T_if_le (pc := 7) C 14 dX13_meanPrice_7 rfl r1 (fun c2 => ?_) (fun c2 => ?_)
  · refine T_iconst (pc := 14) C dX13_meanPrice_14 ?_
    refine T_callVi (pc := 15) C [vi 0] [] (fun o h9 hw => ct_X13_checked σ 0 (Or.inl rfl) hw o h9) kf_3 cm_X13_checked rcm rfl rfl (Nat.le_of_ble_eq_true rfl) (by decide) (a' := 0) (b' := 0) ⟨rfl, rfl⟩ dX13_meanPrice_15 (fun v3 hv3 => ?_)
    refine T_if_le (pc := 18) C 23 dX13_meanPrice_18 rfl hv3.1 (fun c4 => ?_) (fun c4 => ?_)
    · refine T_iconst (pc := 23) C dX13_meanPrice_23 ?_
      refine T_istore_n (pc := 24) (L' := [(1, vi 0), (0, .ref (ad 0))]) C dX13_meanPrice_24 rfl (Nat.le_of_ble_eq_true rfl) rfl ?_
      refine T_iconst (pc := 25) C dX13_meanPrice_25 ?_
      refine T_istore_n (pc := 26) (L' := [(2, vi 0), (1, vi 0), (0, .ref (ad 0))]) C dX13_meanPrice_26 rfl (Nat.le_of_ble_eq_true rfl) rfl ?_
      refine T_sub (L' := [(0, .ref (ad 0)), (1, vi 0), (2, vi 0)]) [2, 1, 0] rfl ?_
      refine T_loopE (lp_X13_meanPrice_27 C v3.1 N 0 0 (rngL rfl) (rngL rfl)) (fun q21 hq21 => ?_)
      refine T_iload_n (pc := 52) C dX13_meanPrice_52 rfl 1 rfl ?_
      refine T_i2d (pc := 53) C dX13_meanPrice_53 ?_
      refine T_aload_n (pc := 54) C dX13_meanPrice_54 rfl 0 rfl ?_
      refine Tm_getA (pc := 55) C 0 1 (by decide) (fun _ => rfl) kf_2 rfl dX13_meanPrice_55 ?_
      refine T_iconst (pc := 58) C dX13_meanPrice_58 ?_
      refine Tm_iald (pc := 59) C 1 3 ⟨by decide, by decide⟩ ⟨by decide, by decide⟩ rfl dX13_meanPrice_59 (fun r22 => ?_)
      refine T_i2d (pc := 60) C dX13_meanPrice_60 ?_
      refine T_guard (fun g23 => ?_)
      refine T_ddiv (pc := 61) C g23 dX13_meanPrice_61 ?_
      exact T_dret (pc := 62) (v3.1, (dqv q21 (v3.1 1 3))) (fun h9 => h9) (by decide) dX13_meanPrice_62
    · refine T_dconst0 (pc := 21) C dX13_meanPrice_21 ?_
      exact T_dret (pc := 22) (v3.1, FP.dconst0) (fun h9 => h9) (by decide) dX13_meanPrice_22
  · refine T_iconst (pc := 10) C dX13_meanPrice_10 ?_
    refine T_goto (pc := 11) C 15 dX13_meanPrice_11 rfl ?_
    refine T_callVi (pc := 15) C [vi 1] [] (fun o h9 hw => ct_X13_checked σ 1 (Or.inr rfl) hw o h9) kf_3 cm_X13_checked rcm rfl rfl (Nat.le_of_ble_eq_true rfl) (by decide) (a' := 0) (b' := 0) ⟨rfl, rfl⟩ dX13_meanPrice_15 (fun v24 hv24 => ?_)
    refine T_if_le (pc := 18) C 23 dX13_meanPrice_18 rfl hv24.1 (fun c25 => ?_) (fun c25 => ?_)
    · refine T_iconst (pc := 23) C dX13_meanPrice_23 ?_
      refine T_istore_n (pc := 24) (L' := [(1, vi 0), (0, .ref (ad 0))]) C dX13_meanPrice_24 rfl (Nat.le_of_ble_eq_true rfl) rfl ?_
      refine T_iconst (pc := 25) C dX13_meanPrice_25 ?_
      refine T_istore_n (pc := 26) (L' := [(2, vi 0), (1, vi 0), (0, .ref (ad 0))]) C dX13_meanPrice_26 rfl (Nat.le_of_ble_eq_true rfl) rfl ?_
      refine T_sub (L' := [(0, .ref (ad 0)), (1, vi 0), (2, vi 0)]) [2, 1, 0] rfl ?_
      refine T_loopE (lp_X13_meanPrice_27 C v24.1 N 0 0 (rngL rfl) (rngL rfl)) (fun q26 hq26 => ?_)
      refine T_iload_n (pc := 52) C dX13_meanPrice_52 rfl 1 rfl ?_
      refine T_i2d (pc := 53) C dX13_meanPrice_53 ?_
      refine T_aload_n (pc := 54) C dX13_meanPrice_54 rfl 0 rfl ?_
      refine Tm_getA (pc := 55) C 0 1 (by decide) (fun _ => rfl) kf_2 rfl dX13_meanPrice_55 ?_
      refine T_iconst (pc := 58) C dX13_meanPrice_58 ?_
      refine Tm_iald (pc := 59) C 1 3 ⟨by decide, by decide⟩ ⟨by decide, by decide⟩ rfl dX13_meanPrice_59 (fun r27 => ?_)
      refine T_i2d (pc := 60) C dX13_meanPrice_60 ?_
      refine T_guard (fun g28 => ?_)
      refine T_ddiv (pc := 61) C g28 dX13_meanPrice_61 ?_
      exact T_dret (pc := 62) (v24.1, (dqv q26 (v24.1 1 3))) (fun h9 => h9) (by decide) dX13_meanPrice_62
    · refine T_dconst0 (pc := 21) C dX13_meanPrice_21 ?_
      exact T_dret (pc := 22) (v24.1, FP.dconst0) (fun h9 => h9) (by decide) dX13_meanPrice_22
abbrev rm_X13_closedShare : Room := ⟨1, 0, 0, 21⟩
theorem cm_X13_closedShare : cmV yX13_closedShare cX13_closedShare 3 (some .float) 0 := ⟨kf_1, kf_5, ⟨by decide +kernel, by decide +kernel, by decide +kernel⟩, kf_9, kf_10⟩
def f_X13_closedShare_27 (σ : Sm) : Nat → Int → Int → Option (Int)
  | 0, _, _ => none
  | n + 1, x1, x2 => (if (σ 1 0) ≤ x2 then some x1 else (f_X13_isOpen σ x2).bind fun v20 => (if v20 = 0 then bl (x1 + 1) fun v22 => if rng v22 then f_X13_closedShare_27 σ n v22 (x2 + 1) else none else bl (x1 + 0) fun v24 => if rng v24 then f_X13_closedShare_27 σ n v24 (x2 + 1) else none))
theorem lp_X13_closedShare_27 {X : vjX} {A : Nat → Prop} {Q : State → Prop} {cy : ClassId} {ad : Nat → Nat} {G : va_G} (C : Cx X (Ym cy ad G A 3 Q) cX13_closedShare RX13 (some .float) rm_X13_closedShare (tym cy)) (σ : Sm) : ∀ (n : Nat) (x1 : Int) (x2 : Int) (h1 : rng x1) (h2 : rng x2), T X (Ym cy ad G A 3 Q) (fun (q : Int) => rng q → J X (Ym cy ad G A 3 Q) 0 0 59 [(0, .ref (ad 0)), (1, vi q)] [] σ) 0 0 27 [(0, .ref (ad 0)), (1, vi x1), (2, vi x2)] [] σ (f_X13_closedShare_27 σ n x1 x2) := by
  intro n
  induction n with
  | zero => intro x1 x2 h1 h2; exact T_none
  | succ n ih =>
    intro x1 x2 h1 h2
    rw [f_X13_closedShare_27]
    refine T_iload_n (pc := 27) C dX13_closedShare_27 rfl 2 rfl ?_
    refine T_aload_n (pc := 28) C dX13_closedShare_28 rfl 0 rfl ?_
    refine Tm_getA (pc := 29) C 0 1 (by decide) (fun _ => rfl) kf_2 rfl dX13_closedShare_29 ?_
    refine T_iconst (pc := 32) C dX13_closedShare_32 ?_
    refine Tm_iald (pc := 33) C 1 0 ⟨by decide, by decide⟩ ⟨by decide, by decide⟩ rfl dX13_closedShare_33 (fun r18 => ?_)
    refine T_icmp_ge (pc := 34) C 59 dX13_closedShare_34 rfl h2 r18 (fun c19 => ?_) (fun c19 => ?_)
    · refine T_sub (L' := [(0, .ref (ad 0)), (1, vi x1)]) [0, 1] rfl ?_
      exact T_exit (fun h9 => h9 h1)
    · refine T_iload_n (pc := 37) C dX13_closedShare_37 rfl 1 rfl ?_
      refine T_aload_n (pc := 38) C dX13_closedShare_38 rfl 0 rfl ?_
      refine T_iload_n (pc := 39) C dX13_closedShare_39 rfl 2 rfl ?_
      refine T_callVip (pc := 40) C [vi x2] [vi x1] (fun o h9 hw => ct_X13_isOpen σ x2 h2 hw o h9) kf_8 cm_X13_isOpen rcm rfl rfl (Nat.le_of_ble_eq_true rfl) (by decide) (a' := 0) (b' := 0) ⟨rfl, rfl⟩ dX13_closedShare_40 (fun v20 hv20 => ?_)
      refine T_if_eq (pc := 43) C 50 dX13_closedShare_43 rfl hv20.1 (fun c21 => ?_) (fun c21 => ?_)
      · refine T_iconst (pc := 50) C dX13_closedShare_50 ?_
        refine T_iadd (pc := 51) C dX13_closedShare_51 ?_
        refine T_blN (fun v22 => ?_)
        refine T_istore_n (pc := 52) (L' := [(1, vi v22), (0, .ref (ad 0)), (2, vi x2)]) C dX13_closedShare_52 rfl (Nat.le_of_ble_eq_true rfl) rfl ?_
        refine T_iinc (pc := 53) (L' := [(2, vi (x2 + 1)), (1, vi v22), (0, .ref (ad 0))]) C dX13_closedShare_53 (Nat.le_of_ble_eq_true rfl) 2 rfl rfl ?_
        refine T_goto (pc := 56) C 27 dX13_closedShare_56 rfl ?_
        refine T_sub (L' := [(0, .ref (ad 0)), (1, vi v22), (2, vi (x2 + 1))]) [2, 1, 0] rfl ?_
        refine T_guard (fun g23 => ?_)
        exact ih v22 (x2 + 1) g23 (rng_inc c19 h2 r18)
      · refine T_iconst (pc := 46) C dX13_closedShare_46 ?_
        refine T_goto (pc := 47) C 51 dX13_closedShare_47 rfl ?_
        refine T_iadd (pc := 51) C dX13_closedShare_51 ?_
        refine T_blN (fun v24 => ?_)
        refine T_istore_n (pc := 52) (L' := [(1, vi v24), (0, .ref (ad 0)), (2, vi x2)]) C dX13_closedShare_52 rfl (Nat.le_of_ble_eq_true rfl) rfl ?_
        refine T_iinc (pc := 53) (L' := [(2, vi (x2 + 1)), (1, vi v24), (0, .ref (ad 0))]) C dX13_closedShare_53 (Nat.le_of_ble_eq_true rfl) 2 rfl rfl ?_
        refine T_goto (pc := 56) C 27 dX13_closedShare_56 rfl ?_
        refine T_sub (L' := [(0, .ref (ad 0)), (1, vi v24), (2, vi (x2 + 1))]) [2, 1, 0] rfl ?_
        refine T_guard (fun g25 => ?_)
        exact ih v24 (x2 + 1) g25 (rng_inc c19 h2 r18)
def f_X13_closedShare (N : Nat) (σ : Sm) : Option (Sm × UInt32) :=
  (if (σ 1 0) ≤ 0 then (f_X13_checked σ 0).bind fun v3 => (if v3.2 ≤ 0 then (f_X13_closedShare_27 v3.1 N 0 0).bind fun q26 => if 0 ≤ q26 ∧ q26 < 11 ∧ 0 < (v3.1 1 0) ∧ (v3.1 1 0) < 11 then some (v3.1, (fqv q26 (v3.1 1 0))) else none else some (v3.1, FP.fconst0)) else (f_X13_checked σ 1).bind fun v29 => (if v29.2 ≤ 0 then (f_X13_closedShare_27 v29.1 N 0 0).bind fun q31 => if 0 ≤ q31 ∧ q31 < 11 ∧ 0 < (v29.1 1 0) ∧ (v29.1 1 0) < 11 then some (v29.1, (fqv q31 (v29.1 1 0))) else none else some (v29.1, FP.fconst0)))
theorem ct_X13_closedShare {l : Launch} {cy : ClassId} {ad : Nat → Nat} {G : va_G} (N : Nat) (σ : Sm) (hw : wfm σ) (o : Sm × UInt32) (h : f_X13_closedShare N σ = some o) : CtF l yX13_closedShare cX13_closedShare 3 (some .float) rm_X13_closedShare (wlm cy ad) wfm G (tym cy) [.ref (ad 0)] σ o.1 o.2 := by
  refine ctF_of (by decide) (Nat.le_of_ble_eq_true rfl) hw o o h (fun X Y w => EndF X Y cX13_closedShare rm_X13_closedShare w) (fun _ _ h => h) (fun X A Q hX C => ?_)
  replace C : Cx X (Ym cy ad G A 3 Q) cX13_closedShare RX13 (some .float) rm_X13_closedShare (tym cy) := C
  show T X (Ym cy ad G A 3 Q) (fun w => EndF X (Ym cy ad G A 3 Q) cX13_closedShare rm_X13_closedShare w) 0 0 0 [(0, .ref (ad 0))] [] σ (f_X13_closedShare N σ)
  unfold f_X13_closedShare
  refine T_aload_n (pc := 0) C dX13_closedShare_0 rfl 0 rfl ?_
  refine T_aload_n (pc := 1) C dX13_closedShare_1 rfl 0 rfl ?_
  refine Tm_getA (pc := 2) C 0 1 (by decide) (fun _ => rfl) kf_2 rfl dX13_closedShare_2 ?_
  refine T_iconst (pc := 5) C dX13_closedShare_5 ?_
  refine Tm_iald (pc := 6) C 1 0 ⟨by decide, by decide⟩ ⟨by decide, by decide⟩ rfl dX13_closedShare_6 (fun r1 => ?_)
  refine T_if_le (pc := 7) C 14 dX13_closedShare_7 rfl r1 (fun c2 => ?_) (fun c2 => ?_)
  · refine T_iconst (pc := 14) C dX13_closedShare_14 ?_
    refine T_callVi (pc := 15) C [vi 0] [] (fun o h9 hw => ct_X13_checked σ 0 (Or.inl rfl) hw o h9) kf_3 cm_X13_checked rcm rfl rfl (Nat.le_of_ble_eq_true rfl) (by decide) (a' := 0) (b' := 0) ⟨rfl, rfl⟩ dX13_closedShare_15 (fun v3 hv3 => ?_)
    refine T_if_le (pc := 18) C 23 dX13_closedShare_18 rfl hv3.1 (fun c4 => ?_) (fun c4 => ?_)
    · refine T_iconst (pc := 23) C dX13_closedShare_23 ?_
      refine T_istore_n (pc := 24) (L' := [(1, vi 0), (0, .ref (ad 0))]) C dX13_closedShare_24 rfl (Nat.le_of_ble_eq_true rfl) rfl ?_
      refine T_iconst (pc := 25) C dX13_closedShare_25 ?_
      refine T_istore_n (pc := 26) (L' := [(2, vi 0), (1, vi 0), (0, .ref (ad 0))]) C dX13_closedShare_26 rfl (Nat.le_of_ble_eq_true rfl) rfl ?_
      refine T_sub (L' := [(0, .ref (ad 0)), (1, vi 0), (2, vi 0)]) [2, 1, 0] rfl ?_
      refine T_loopE (lp_X13_closedShare_27 C v3.1 N 0 0 (rngL rfl) (rngL rfl)) (fun q26 hq26 => ?_)
      refine T_iload_n (pc := 59) C dX13_closedShare_59 rfl 1 rfl ?_
      refine T_i2f (pc := 60) C dX13_closedShare_60 ?_
      refine T_aload_n (pc := 61) C dX13_closedShare_61 rfl 0 rfl ?_
      refine Tm_getA (pc := 62) C 0 1 (by decide) (fun _ => rfl) kf_2 rfl dX13_closedShare_62 ?_
      refine T_iconst (pc := 65) C dX13_closedShare_65 ?_
      refine Tm_iald (pc := 66) C 1 0 ⟨by decide, by decide⟩ ⟨by decide, by decide⟩ rfl dX13_closedShare_66 (fun r27 => ?_)
      refine T_i2f (pc := 67) C dX13_closedShare_67 ?_
      refine T_guard (fun g28 => ?_)
      refine T_fdiv (pc := 68) C g28 dX13_closedShare_68 ?_
      exact T_fret (pc := 69) (v3.1, (fqv q26 (v3.1 1 0))) (fun h9 => h9) (by decide) dX13_closedShare_69
    · refine T_fconst0 (pc := 21) C dX13_closedShare_21 ?_
      exact T_fret (pc := 22) (v3.1, FP.fconst0) (fun h9 => h9) (by decide) dX13_closedShare_22
  · refine T_iconst (pc := 10) C dX13_closedShare_10 ?_
    refine T_goto (pc := 11) C 15 dX13_closedShare_11 rfl ?_
    refine T_callVi (pc := 15) C [vi 1] [] (fun o h9 hw => ct_X13_checked σ 1 (Or.inr rfl) hw o h9) kf_3 cm_X13_checked rcm rfl rfl (Nat.le_of_ble_eq_true rfl) (by decide) (a' := 0) (b' := 0) ⟨rfl, rfl⟩ dX13_closedShare_15 (fun v29 hv29 => ?_)
    refine T_if_le (pc := 18) C 23 dX13_closedShare_18 rfl hv29.1 (fun c30 => ?_) (fun c30 => ?_)
    · refine T_iconst (pc := 23) C dX13_closedShare_23 ?_
      refine T_istore_n (pc := 24) (L' := [(1, vi 0), (0, .ref (ad 0))]) C dX13_closedShare_24 rfl (Nat.le_of_ble_eq_true rfl) rfl ?_
      refine T_iconst (pc := 25) C dX13_closedShare_25 ?_
      refine T_istore_n (pc := 26) (L' := [(2, vi 0), (1, vi 0), (0, .ref (ad 0))]) C dX13_closedShare_26 rfl (Nat.le_of_ble_eq_true rfl) rfl ?_
      refine T_sub (L' := [(0, .ref (ad 0)), (1, vi 0), (2, vi 0)]) [2, 1, 0] rfl ?_
      refine T_loopE (lp_X13_closedShare_27 C v29.1 N 0 0 (rngL rfl) (rngL rfl)) (fun q31 hq31 => ?_)
      refine T_iload_n (pc := 59) C dX13_closedShare_59 rfl 1 rfl ?_
      refine T_i2f (pc := 60) C dX13_closedShare_60 ?_
      refine T_aload_n (pc := 61) C dX13_closedShare_61 rfl 0 rfl ?_
      refine Tm_getA (pc := 62) C 0 1 (by decide) (fun _ => rfl) kf_2 rfl dX13_closedShare_62 ?_
      refine T_iconst (pc := 65) C dX13_closedShare_65 ?_
      refine Tm_iald (pc := 66) C 1 0 ⟨by decide, by decide⟩ ⟨by decide, by decide⟩ rfl dX13_closedShare_66 (fun r32 => ?_)
      refine T_i2f (pc := 67) C dX13_closedShare_67 ?_
      refine T_guard (fun g33 => ?_)
      refine T_fdiv (pc := 68) C g33 dX13_closedShare_68 ?_
      exact T_fret (pc := 69) (v29.1, (fqv q31 (v29.1 1 0))) (fun h9 => h9) (by decide) dX13_closedShare_69
    · refine T_fconst0 (pc := 21) C dX13_closedShare_21 ?_
      exact T_fret (pc := 22) (v29.1, FP.fconst0) (fun h9 => h9) (by decide) dX13_closedShare_22
theorem xf_0 : ∀ w ∈ vx_atS RX12 349 "java/lang/ArithmeticException" ["java/lang/RuntimeException", "java/lang/Exception"], w ∈ lwG ∨ w ∈ nwL := by decide +kernel
theorem kg_0 : Cond.code yX12_meanPrice cX12_meanPrice 1 (some .double) ∈ lwG := lwG_of (tb_6 (List.mem_of_getElem? (i := 126) (by decide +kernel))) (by decide +kernel)
theorem kg_1 : Cond.fieldLink RX12 10 "RingTransit" "network" "LRingTransit$Network;" ∈ lwG := lwG_of (tb_2 (List.mem_of_getElem? (i := 133) (by decide +kernel))) (by decide +kernel)
theorem kg_2 : Cond.fieldLink RX12 168 "RingTransit$Network" "tickets" "LRingTransit$Tickets;" ∈ lwG := lwG_of (tb_1 (List.mem_of_getElem? (i := 203) (by decide +kernel))) (by decide +kernel)
theorem kg_3 : Cond.fieldLink RX12 298 "RingTransit$Tickets" "count" "I" ∈ lwG := lwG_of (tb_1 (List.mem_of_getElem? (i := 109) (by decide +kernel))) (by decide +kernel)
theorem kg_4 : Cond.methodLink RX12 350 yX11_priceSum ∈ lwG := lwG_of (tb_6 (List.mem_of_getElem? (i := 130) (by decide +kernel))) (by decide +kernel)
theorem kg_5 : Cond.classLink RX12 345 "java/lang/ArithmeticException" ∈ lwG := lwG_of (tb_6 (List.mem_of_getElem? (i := 127) (by decide +kernel))) (by decide +kernel)
theorem kg_6 : Cond.initialized "java/lang/ArithmeticException" ∈ lwG := lwG_of (tb_1 (List.mem_of_getElem? (i := 32) (by decide +kernel))) (by decide +kernel)
theorem kg_7 : Cond.initialized RX12 ∈ lwG := lwG_of (tb_1 (List.mem_of_getElem? (i := 1) (by decide +kernel))) (by decide +kernel)
theorem kg_8 : Cond.instanceMethod yX12_meanPrice ∈ lwG := lwG_of (tb_6 (List.mem_of_getElem? (i := 124) (by decide +kernel))) (by decide +kernel)
theorem kg_9 : Cond.selects yX12_meanPrice.cls yX12_meanPrice yX12_meanPrice ∈ lwG := lwG_of (tb_6 (List.mem_of_getElem? (i := 125) (by decide +kernel))) (by decide +kernel)
theorem kg_10 : Cond.code yX12_closedShare cX12_closedShare 1 (some .float) ∈ lwG := lwG_of (tb_6 (List.mem_of_getElem? (i := 140) (by decide +kernel))) (by decide +kernel)
theorem kg_11 : Cond.fieldLink RX12 186 "RingTransit$Network" "stopCount" "I" ∈ lwG := lwG_of (tb_1 (List.mem_of_getElem? (i := 182) (by decide +kernel))) (by decide +kernel)
theorem kg_12 : Cond.methodLink RX12 355 yX8_closedCount ∈ lwG := lwG_of (tb_6 (List.mem_of_getElem? (i := 142) (by decide +kernel))) (by decide +kernel)
theorem kg_13 : Cond.instanceMethod yX12_closedShare ∈ lwG := lwG_of (tb_6 (List.mem_of_getElem? (i := 138) (by decide +kernel))) (by decide +kernel)
theorem kg_14 : Cond.selects yX12_closedShare.cls yX12_closedShare yX12_closedShare ∈ lwG := lwG_of (tb_6 (List.mem_of_getElem? (i := 139) (by decide +kernel))) (by decide +kernel)
abbrev rm_X12_meanPrice : Room := ⟨6, 1, 6, 82⟩
theorem cm_X12_meanPrice : cmV yX12_meanPrice cX12_meanPrice 1 (some .double) 0 := ⟨kg_0, kg_7, ⟨by decide +kernel, by decide +kernel, by decide +kernel⟩, kg_8, kg_9⟩
def f_X12_meanPrice (N : Nat) (σ : Sm) : Option (Sm × Nat × UInt64) :=
  (if (σ 6 1) = 0 then some (σ, 6, 0) else (f_X11_priceSum N σ 6).bind fun v3 => if 0 ≤ v3 ∧ v3 < 320 ∧ 0 < (σ 6 1) ∧ (σ 6 1) < 17 then some (σ, 0, (dqv v3 (σ 6 1))) else none)
theorem ct_X12_meanPrice {l : Launch} {cy : Nat → ClassId} {ad : Nat → Nat} {E : Nat → Nat → Nat} {G : va_G} {Z : vZ} {sa : Nat → Nat} (zk : Zk Z E) (zy : Zy Z E sa) (hst : l.stackTraces = false) (N : Nat) (σ : Sm) (hw : wfc σ) (o : Sm × Nat × UInt64) (h : f_X12_meanPrice N σ = some o) : CxD Z l yX12_meanPrice cX12_meanPrice 1 (some .double) rm_X12_meanPrice (wlc cy ad E) wfc G (tyc cy) [.ref (ad 0)] σ o := by
  refine cxD_of zk.1 zy.1 hst (by decide) (Nat.le_of_ble_eq_true rfl) hw o h (fun X A Q hZ hX C => ?_)
  replace hst : X.2.1.stackTraces = false := by rw [hX]; exact hst
  replace C : Cx X (Yc cy ad E G A 1 Q) cX12_meanPrice RX12 (some .double) rm_X12_meanPrice (tyc cy) := C
  replace hZ : Zx Z X (Yc cy ad E G A 1 Q) := hZ
  show T X (Yc cy ad E G A 1 Q) (fun w => EndXD X (Yc cy ad E G A 1 Q) cX12_meanPrice rm_X12_meanPrice w ∧ EndX X (Yc cy ad E G A 1 Q) cX12_meanPrice RX12 rm_X12_meanPrice (w.1, w.2.1, 0)) 0 0 0 [(0, .ref (ad 0))] [] σ (f_X12_meanPrice N σ)
  unfold f_X12_meanPrice
  refine T_aload_n (pc := 0) C dX12_meanPrice_0 rfl 0 rfl ?_
  refine Tc_getr (pc := 1) C 0 12 0 13 (rfl : kd 0 = 12) (by decide) (fun _ => rfl) rfl inX12 (by decide) (v := .ref (ad 1)) rfl kg_1 dX12_meanPrice_1 ?_
  refine Tc_getr (pc := 4) C 1 8 9 10 (rfl : kd 1 = 8) (by decide) (fun _ => rfl) rfl inX8 (by decide) (v := .ref (ad 6)) rfl kg_2 dX12_meanPrice_4 ?_
  refine Tc_geti (pc := 7) C 6 11 1 6 (kd_8 (rfl : kd 1 = 8)).2.2.2.2.1 (by decide) (fun _ => rfl) rfl inX11 (by decide) rfl kg_3 dX12_meanPrice_7 (fun z1 => ?_)
  refine T_if_ne (pc := 10) C 24 dX12_meanPrice_10 rfl z1 (fun c2 => ?_) (fun c2 => ?_)
  · refine T_aload_n (pc := 24) C dX12_meanPrice_24 rfl 0 rfl ?_
    refine Tc_getr (pc := 25) C 0 12 0 13 (rfl : kd 0 = 12) (by decide) (fun _ => rfl) rfl inX12 (by decide) (v := .ref (ad 1)) rfl kg_1 dX12_meanPrice_25 ?_
    refine Tc_getr (pc := 28) C 1 8 9 10 (rfl : kd 1 = 8) (by decide) (fun _ => rfl) rfl inX8 (by decide) (v := .ref (ad 6)) rfl kg_2 dX12_meanPrice_28 ?_
    refine T_czVip (pc := 31) zk.1 hZ C [] [] (fun o h9 hw => ct_X11_priceSum zk N σ 6 (kd_8 (rfl : kd 1 = 8)).2.2.2.2.1 hw o h9) kg_4 cm_X11_priceSum (rcc (kd_8 (rfl : kd 1 = 8)).2.2.2.2.1 (by decide) (fun _ => rfl) rfl) rfl rfl (Nat.le_of_ble_eq_true rfl) (by decide) (a' := 0) (b' := 0) ⟨rfl, rfl⟩ dX12_meanPrice_31 (fun v3 hv3 => ?_)
    refine T_i2d (pc := 34) C dX12_meanPrice_34 ?_
    refine T_aload_n (pc := 35) C dX12_meanPrice_35 rfl 0 rfl ?_
    refine Tc_getr (pc := 36) C 0 12 0 13 (rfl : kd 0 = 12) (by decide) (fun _ => rfl) rfl inX12 (by decide) (v := .ref (ad 1)) rfl kg_1 dX12_meanPrice_36 ?_
    refine Tc_getr (pc := 39) C 1 8 9 10 (rfl : kd 1 = 8) (by decide) (fun _ => rfl) rfl inX8 (by decide) (v := .ref (ad 6)) rfl kg_2 dX12_meanPrice_39 ?_
    refine Tc_geti (pc := 42) C 6 11 1 6 (kd_8 (rfl : kd 1 = 8)).2.2.2.2.1 (by decide) (fun _ => rfl) rfl inX11 (by decide) rfl kg_3 dX12_meanPrice_42 (fun z4 => ?_)
    refine T_i2d (pc := 45) C dX12_meanPrice_45 ?_
    refine T_guard (fun g5 => ?_)
    refine T_ddiv (pc := 46) C g5 dX12_meanPrice_46 ?_
    exact T_xdret (pc := 47) (σ, 0, (dqv v3 (σ 6 1))) (σ, 0, (dqv v3 (σ 6 1))) rfl (fun h9 => h9.1) (by decide) dX12_meanPrice_47
  · exact T_throw (pc := 13) 6 (σ, 6, 0) (fun h9 => h9.2) (by decide) (sa 347) "there are no tickets" "java/lang/ArithmeticException" rfl ["java/lang/RuntimeException", "java/lang/Exception"] (by decide +kernel) (by decide +kernel) kg_5 kg_6 (zy.2.1 _ _ _ hZ (347, "there are no tickets") (List.mem_of_getElem? (i := 10) rfl)) (xn_at zy hZ xf_0) (by decide) (by decide) (by decide) dX12_meanPrice_13 dX12_meanPrice_16 (Or.inr ⟨dX12_meanPrice_17, dX12_meanPrice_20, dX12_meanPrice_23⟩)
abbrev rm_X12_closedShare : Room := ⟨6, 1, 6, 82⟩
theorem cm_X12_closedShare : cmV yX12_closedShare cX12_closedShare 1 (some .float) 0 := ⟨kg_10, kg_7, ⟨by decide +kernel, by decide +kernel, by decide +kernel⟩, kg_13, kg_14⟩
def f_X12_closedShare (N : Nat) (σ : Sm) : Option (Sm × Nat × UInt32) :=
  (if (σ 1 2) = 0 then some (σ, 6, 0) else (f_X8_closedCount N σ 1).bind fun v3 => if 0 ≤ v3 ∧ v3 < 11 ∧ 0 < (σ 1 2) ∧ (σ 1 2) < 11 then some (σ, 0, (fqv v3 (σ 1 2))) else none)
theorem ct_X12_closedShare {l : Launch} {cy : Nat → ClassId} {ad : Nat → Nat} {E : Nat → Nat → Nat} {G : va_G} {Z : vZ} {sa : Nat → Nat} (zk : Zk Z E) (zy : Zy Z E sa) (hst : l.stackTraces = false) (N : Nat) (σ : Sm) (hw : wfc σ) (o : Sm × Nat × UInt32) (h : f_X12_closedShare N σ = some o) : CxF Z l yX12_closedShare cX12_closedShare 1 (some .float) rm_X12_closedShare (wlc cy ad E) wfc G (tyc cy) [.ref (ad 0)] σ o := by
  refine cxF_of zk.1 zy.1 hst (by decide) (Nat.le_of_ble_eq_true rfl) hw o h (fun X A Q hZ hX C => ?_)
  replace hst : X.2.1.stackTraces = false := by rw [hX]; exact hst
  replace C : Cx X (Yc cy ad E G A 1 Q) cX12_closedShare RX12 (some .float) rm_X12_closedShare (tyc cy) := C
  replace hZ : Zx Z X (Yc cy ad E G A 1 Q) := hZ
  show T X (Yc cy ad E G A 1 Q) (fun w => EndXF X (Yc cy ad E G A 1 Q) cX12_closedShare rm_X12_closedShare w ∧ EndX X (Yc cy ad E G A 1 Q) cX12_closedShare RX12 rm_X12_closedShare (w.1, w.2.1, 0)) 0 0 0 [(0, .ref (ad 0))] [] σ (f_X12_closedShare N σ)
  unfold f_X12_closedShare
  refine T_aload_n (pc := 0) C dX12_closedShare_0 rfl 0 rfl ?_
  refine Tc_getr (pc := 1) C 0 12 0 13 (rfl : kd 0 = 12) (by decide) (fun _ => rfl) rfl inX12 (by decide) (v := .ref (ad 1)) rfl kg_1 dX12_closedShare_1 ?_
  refine Tc_geti (pc := 4) C 1 8 2 10 (rfl : kd 1 = 8) (by decide) (fun _ => rfl) rfl inX8 (by decide) rfl kg_11 dX12_closedShare_4 (fun z1 => ?_)
  refine T_if_ne (pc := 7) C 21 dX12_closedShare_7 rfl z1.1 (fun c2 => ?_) (fun c2 => ?_)
  · refine T_aload_n (pc := 21) C dX12_closedShare_21 rfl 0 rfl ?_
    refine Tc_getr (pc := 22) C 0 12 0 13 (rfl : kd 0 = 12) (by decide) (fun _ => rfl) rfl inX12 (by decide) (v := .ref (ad 1)) rfl kg_1 dX12_closedShare_22 ?_
    refine T_czVip (pc := 25) zk.1 hZ C [] [] (fun o h9 hw => ct_X8_closedCount zk N σ 1 (rfl : kd 1 = 8) hw o h9) kg_12 cm_X8_closedCount (rcc (rfl : kd 1 = 8) (by decide) (fun _ => rfl) rfl) rfl rfl (Nat.le_of_ble_eq_true rfl) (by decide) (a' := 0) (b' := 0) ⟨rfl, rfl⟩ dX12_closedShare_25 (fun v3 hv3 => ?_)
    refine T_i2f (pc := 28) C dX12_closedShare_28 ?_
    refine T_aload_n (pc := 29) C dX12_closedShare_29 rfl 0 rfl ?_
    refine Tc_getr (pc := 30) C 0 12 0 13 (rfl : kd 0 = 12) (by decide) (fun _ => rfl) rfl inX12 (by decide) (v := .ref (ad 1)) rfl kg_1 dX12_closedShare_30 ?_
    refine Tc_geti (pc := 33) C 1 8 2 10 (rfl : kd 1 = 8) (by decide) (fun _ => rfl) rfl inX8 (by decide) rfl kg_11 dX12_closedShare_33 (fun z4 => ?_)
    refine T_i2f (pc := 36) C dX12_closedShare_36 ?_
    refine T_guard (fun g5 => ?_)
    refine T_fdiv (pc := 37) C g5 dX12_closedShare_37 ?_
    exact T_xfret (pc := 38) (σ, 0, (fqv v3 (σ 1 2))) (σ, 0, (fqv v3 (σ 1 2))) rfl (fun h9 => h9.1) (by decide) dX12_closedShare_38
  · exact T_throw (pc := 10) 6 (σ, 6, 0) (fun h9 => h9.2) (by decide) (sa 353) "there are no stops" "java/lang/ArithmeticException" rfl ["java/lang/RuntimeException", "java/lang/Exception"] (by decide +kernel) (by decide +kernel) kg_5 kg_6 (zy.2.1 _ _ _ hZ (353, "there are no stops") (List.mem_of_getElem? (i := 11) rfl)) (xn_at zy hZ xf_0) (by decide) (by decide) (by decide) dX12_closedShare_10 dX12_closedShare_13 (Or.inr ⟨dX12_closedShare_14, dX12_closedShare_17, dX12_closedShare_20⟩)
