theorem T_blC {S O : Type} {X : vjX} {Y : vjY S} {kp : O → Prop} {a b pc : Nat} {L : List (Nat × Value)} {st : List Value} {σ : S} {x : Int} {k : Int → Option O} (hr : 0 ≤ x ∧ x < 65536) (K : ∀ v : Int, 0 ≤ v ∧ v < 65536 → T X Y kp a b pc L (vi v :: st) σ (k v)) : T X Y kp a b pc L (vi x :: st) σ (bl x k) := K x hr
theorem kp_0 : Cond.code yX9_readForm cX9_readForm 8 (some .int) ∈ lwG := lwG_of (tb_8 (List.mem_of_getElem? (i := 6) (by decide +kernel))) (by decide +kernel)
theorem kp_1 : Cond.code yX9_readCommand cX9_readCommand 4 (some .int) ∈ lwG := lwG_of (tb_8 (List.mem_of_getElem? (i := 0) (by decide +kernel))) (by decide +kernel)
theorem kp_2 : Cond.code yX9_parse cX9_parse 2 (some .boolean) ∈ lwG := lwG_of (tb_7 (List.mem_of_getElem? (i := 236) (by decide +kernel))) (by decide +kernel)
theorem kp_3 : Cond.methodLink RX9 54 yJ0_length_8abf5 ∈ lwG := lwG_of (tb_8 (List.mem_of_getElem? (i := 7) (by decide +kernel))) (by decide +kernel)
theorem kp_4 : Cond.methodLink RX9 59 yJ0_charAt_5068e ∈ lwG := lwG_of (tb_8 (List.mem_of_getElem? (i := 8) (by decide +kernel))) (by decide +kernel)
theorem kp_5 : Cond.methodLink RX9 63 yX9_endOf ∈ lwG := lwG_of (tb_8 (List.mem_of_getElem? (i := 23) (by decide +kernel))) (by decide +kernel)
theorem kp_6 : Cond.fieldLink RX9 31 "RingTransit$Script" "values" "[I" ∈ lwG := lwG_of (tb_2 (List.mem_of_getElem? (i := 85) (by decide +kernel))) (by decide +kernel)
theorem kp_7 : Cond.fieldLink RX9 19 "RingTransit$Script" "count" "I" ∈ lwG := lwG_of (tb_2 (List.mem_of_getElem? (i := 80) (by decide +kernel))) (by decide +kernel)
theorem kp_8 : Cond.methodLink RX9 73 yX9_numberIn ∈ lwG := lwG_of (tb_8 (List.mem_of_getElem? (i := 31) (by decide +kernel))) (by decide +kernel)
theorem kp_9 : Cond.fieldLink RX9 22 "RingTransit$Script" "error" "I" ∈ lwG := lwG_of (tb_2 (List.mem_of_getElem? (i := 82) (by decide +kernel))) (by decide +kernel)
theorem kp_10 : Cond.methodLink RX9 67 yJ9_max_7cf53 ∈ lwG := lwG_of (tb_8 (List.mem_of_getElem? (i := 30) (by decide +kernel))) (by decide +kernel)
theorem kp_11 : Cond.initialized RX9 ∈ lwG := lwG_of (tb_1 (List.mem_of_getElem? (i := 10) (by decide +kernel))) (by decide +kernel)
theorem kp_12 : Cond.instanceMethod yX9_readForm ∈ lwG := lwG_of (tb_8 (List.mem_of_getElem? (i := 5) (by decide +kernel))) (by decide +kernel)
theorem kp_13 : Cond.selects yX9_readForm.cls yX9_readForm yX9_readForm ∈ lwG := lwG_of (List.mem_append_left _ (List.mem_of_getElem? (i := 17) (by decide +kernel))) (by decide +kernel)
theorem kp_14 : Cond.fieldLink RX9 43 "RingTransit$Script" "COMMANDS" "[LRingTransit$Command;" ∈ lwG := lwG_of (tb_8 (List.mem_of_getElem? (i := 1) (by decide +kernel))) (by decide +kernel)
theorem kp_15 : Cond.fieldLink RX9 46 "RingTransit$Command" "form" "Ljava/lang/String;" ∈ lwG := lwG_of (tb_11 (List.mem_of_getElem? (i := 72) (by decide +kernel))) (by decide +kernel)
theorem kp_16 : Cond.methodLink RX9 50 yX9_readForm ∈ lwG := lwG_of (tb_8 (List.mem_of_getElem? (i := 3) (by decide +kernel))) (by decide +kernel)
theorem kp_17 : Cond.fieldLink RX9 27 "RingTransit$Script" "commands" "[LRingTransit$Command;" ∈ lwG := lwG_of (tb_2 (List.mem_of_getElem? (i := 84) (by decide +kernel))) (by decide +kernel)
theorem kp_18 : Cond.instanceMethod yX9_readCommand ∈ lwG := lwG_of (tb_7 (List.mem_of_getElem? (i := 239) (by decide +kernel))) (by decide +kernel)
theorem kp_19 : Cond.selects yX9_readCommand.cls yX9_readCommand yX9_readCommand ∈ lwG := lwG_of (List.mem_append_left _ (List.mem_of_getElem? (i := 16) (by decide +kernel))) (by decide +kernel)
theorem kp_20 : Cond.methodLink RX9 39 yX9_readCommand ∈ lwG := lwG_of (tb_7 (List.mem_of_getElem? (i := 237) (by decide +kernel))) (by decide +kernel)
theorem kp_21 : Cond.fieldLink RX9 15 "RingTransit$Script" "length" "I" ∈ lwG := lwG_of (tb_2 (List.mem_of_getElem? (i := 78) (by decide +kernel))) (by decide +kernel)
theorem kp_22 : Cond.fieldLink RX9 9 "RingTransit$Script" "signs" "[C" ∈ lwG := lwG_of (tb_2 (List.mem_of_getElem? (i := 77) (by decide +kernel))) (by decide +kernel)
theorem kp_23 : Cond.instanceMethod yX9_parse ∈ lwG := lwG_of (tb_7 (List.mem_of_getElem? (i := 234) (by decide +kernel))) (by decide +kernel)
theorem kp_24 : Cond.selects yX9_parse.cls yX9_parse yX9_parse ∈ lwG := lwG_of (tb_7 (List.mem_of_getElem? (i := 235) (by decide +kernel))) (by decide +kernel)
abbrev rm_X9_readForm : Room := ⟨4, 0, 0, 140⟩
theorem cm_X9_readForm : cmV yX9_readForm cX9_readForm 8 (some .int) 2 := ⟨kp_0, kp_11, ⟨by decide +kernel, by decide +kernel, by decide +kernel⟩, kp_12, kp_13⟩
def f_X9_readForm_8 (N : Nat) (r0 : Nat) (s1 : Nat) : Nat → Sm → Int → Int → Int → Option ((Sm × Int) ⊕ (Sm × Int))
  | 0, _, _, _, _ => none
  | n + 1, s0, x3, x4, x5 => (if (fln s1) ≤ x5 then some (.inr (s0, x3)) else if 0 ≤ x5 ∧ x5 < fln s1 then bl (fch s1 x5) fun v22 => (f_X9_endOf N s0 r0 v22 x3).bind fun v23 => (if v23 = x3 then (f_J9_max_7cf53 (s0 r0 3) x3).bind fun v38 => bl (upm s0 r0 3 v38) fun s39 => some (.inl (s39, (-1))) else (if v22 = 35 then (if 4 ≤ x4 then f_X9_readForm_8 N r0 s1 n s0 v23 x4 (x5 + 1) else (f_X9_numberIn N s0 r0 x3 v23).bind fun v28 => if 0 ≤ (((s0 r0 2) * 4) + x4) ∧ (((s0 r0 2) * 4) + x4) < 64 then bl (upm s0 (r0 + 3) (((s0 r0 2) * 4) + x4).toNat v28) fun s30 => f_X9_readForm_8 N r0 s1 n s30 v23 (x4 + 1) (x5 + 1) else none) else (if v22 = 64 then (if 4 ≤ x4 then f_X9_readForm_8 N r0 s1 n s0 v23 x4 (x5 + 1) else (f_X9_numberIn N s0 r0 x3 v23).bind fun v34 => if 0 ≤ (((s0 r0 2) * 4) + x4) ∧ (((s0 r0 2) * 4) + x4) < 64 then bl (upm s0 (r0 + 3) (((s0 r0 2) * 4) + x4).toNat v34) fun s36 => f_X9_readForm_8 N r0 s1 n s36 v23 (x4 + 1) (x5 + 1) else none) else f_X9_readForm_8 N r0 s1 n s0 v23 x4 (x5 + 1)))) else none)
theorem lp_X9_readForm_8 {X : vjX} {A : Nat → Prop} {Q : State → Prop} {cy : Nat → ClassId} {ad : Nat → Nat} {E : Nat → Nat → Nat} {G : va_G} {Z : vZ} (zk : Zk Z E) (zc : ZC Z E) (zs : ZS Z E) (hZ : Zx Z X (Yc cy ad E G A 8 Q)) (C : Cx X (Yc cy ad E G A 8 Q) cX9_readForm RX9 (some .int) rm_X9_readForm (tyc cy)) (N : Nat) (r0 : Nat) (s1 : Nat) (k0 : kd r0 = 9) (hs1 : s1 < 14) : ∀ (n : Nat) (s0 : Sm) (x3 : Int) (x4 : Int) (x5 : Int) (h3 : rng x3) (h4 : rng x4) (h5 : rng x5), T X (Yc cy ad E G A 8 Q) (Sum.elim (fun w => EndI X (Yc cy ad E G A 8 Q) cX9_readForm rm_X9_readForm .int w) (fun (q : Sm × Int) => rng q.2 → J X (Yc cy ad E G A 8 Q) 0 0 107 [(3, vi q.2)] [] q.1)) 0 0 8 [(0, .ref (ad r0)), (1, .ref (E 4 s1)), (3, vi x3), (4, vi x4), (5, vi x5)] [] s0 (f_X9_readForm_8 N r0 s1 n s0 x3 x4 x5) := by
  intro n
  induction n with
  | zero => intro s0 x3 x4 x5 h3 h4 h5; exact T_none
  | succ n ih =>
    intro s0 x3 x4 x5 h3 h4 h5
    rw [f_X9_readForm_8]
    refine T_iload (pc := 8) C dX9_readForm_8 4 rfl ?_
    refine T_aload_n (pc := 10) C dX9_readForm_10 rfl 1 rfl ?_
    refine T_czKc (pc := 11) zk.1 hZ C [] [vi x5] (fun hw => ct_J0_length_8abf5 zk.1 zs s1 hs1 hw) kp_3 cm_J0_length_8abf5 (rcS zs hZ hs1) rfl rfl (Nat.le_of_ble_eq_true rfl) (by decide) (a' := 0) (b' := 0) ⟨rfl, rfl⟩ dX9_readForm_11 (fun _ => ?_)
    refine T_icmp_ge (pc := 14) C 107 dX9_readForm_14 rfl h5 (fln_rng _ hs1).1 (fun c20 => ?_) (fun c20 => ?_)
    · refine T_sub (L' := [(3, vi x3)]) [2] rfl ?_
      exact T_exit (fun h9 => h9 h3)
    · refine T_aload_n (pc := 17) C dX9_readForm_17 rfl 1 rfl ?_
      refine T_iload (pc := 18) C dX9_readForm_18 4 rfl ?_
      refine T_guard (fun g21 => ?_)
      refine T_czKc (pc := 20) zk.1 hZ C [vi x5] [] (fun hw => ct_J0_charAt_5068e zk.1 zs s1 hs1 x5 g21 hw) kp_4 cm_J0_charAt_5068e (rcS zs hZ hs1) rfl rfl (Nat.le_of_ble_eq_true rfl) (by decide) (a' := 0) (b' := 0) ⟨rfl, rfl⟩ dX9_readForm_20 (fun _ => ?_)
      refine T_blC (fch_chr hs1 g21) (fun v22 hv22 => ?_)
      refine T_istore (pc := 23) (L' := [(6, vi v22), (0, .ref (ad r0)), (1, .ref (E 4 s1)), (3, vi x3), (4, vi x4), (5, vi x5)]) C dX9_readForm_23 (Nat.le_of_ble_eq_true rfl) rfl ?_
      refine T_aload_n (pc := 25) C dX9_readForm_25 rfl 1 rfl ?_
      refine T_iload (pc := 26) C dX9_readForm_26 0 rfl ?_
      refine T_iload_n (pc := 28) C dX9_readForm_28 rfl 3 rfl ?_
      refine T_czVip (pc := 29) zk.1 hZ C [vi v22, vi x3] [] (fun o h9 hw => ct_X9_endOf zk N s0 r0 v22 x3 k0 hv22 h3 hw o h9) kp_5 cm_X9_endOf (rcc k0 (by decide) (fun _ => rfl) rfl) rfl rfl (Nat.le_of_ble_eq_true rfl) (by decide) (a' := 0) (b' := 0) ⟨rfl, rfl⟩ dX9_readForm_29 (fun v23 hv23 => ?_)
      refine T_istore (pc := 32) (L' := [(7, vi v23), (6, vi v22), (0, .ref (ad r0)), (1, .ref (E 4 s1)), (3, vi x3), (4, vi x4), (5, vi x5)]) C dX9_readForm_32 (Nat.le_of_ble_eq_true rfl) rfl ?_
      refine T_iload (pc := 34) C dX9_readForm_34 0 rfl ?_
      refine T_iload_n (pc := 36) C dX9_readForm_36 rfl 4 rfl ?_
      refine T_icmp_ne (pc := 37) C 54 dX9_readForm_37 rfl hv23.1 h3 (fun c24 => ?_) (fun c24 => ?_)
      · refine T_iload (pc := 54) C dX9_readForm_54 1 rfl ?_
        refine T_bipush (pc := 56) C dX9_readForm_56 (by decide) ?_
        refine T_icmp_eq (pc := 58) C 68 dX9_readForm_58 rfl (chr_rng hv22) (rngL rfl) (fun c25 => ?_) (fun c25 => ?_)
        · refine T_iload (pc := 68) C dX9_readForm_68 5 rfl ?_
          refine T_iconst (pc := 70) C dX9_readForm_70 ?_
          refine T_icmp_ge (pc := 71) C 98 dX9_readForm_71 rfl h4 (rngL rfl) (fun c26 => ?_) (fun c26 => ?_)
          · refine T_iload (pc := 98) C dX9_readForm_98 0 rfl ?_
            refine T_istore_n (pc := 100) (L' := [(3, vi v23), (7, vi v23), (6, vi v22), (0, .ref (ad r0)), (1, .ref (E 4 s1)), (4, vi x4), (5, vi x5)]) C dX9_readForm_100 rfl (Nat.le_of_ble_eq_true rfl) rfl ?_
            refine T_iinc (pc := 101) (L' := [(5, vi (x5 + 1)), (3, vi v23), (7, vi v23), (6, vi v22), (0, .ref (ad r0)), (1, .ref (E 4 s1)), (4, vi x4)]) C dX9_readForm_101 (Nat.le_of_ble_eq_true rfl) 6 rfl rfl ?_
            refine T_goto (pc := 104) C 8 dX9_readForm_104 rfl ?_
            refine T_sub (L' := [(0, .ref (ad r0)), (1, .ref (E 4 s1)), (3, vi v23), (4, vi x4), (5, vi (x5 + 1))]) [4, 5, 1, 6, 0] rfl ?_
            exact ih s0 v23 x4 (x5 + 1) hv23.1 h4 (rng_inc c20 h5 (fln_rng _ hs1).1)
          · refine T_aload_n (pc := 74) C dX9_readForm_74 rfl 2 rfl ?_
            refine Tc_getr (pc := 75) C r0 9 5 6 k0 (by decide) (fun _ => rfl) rfl inX9 (by decide) (v := .ref (ad (r0 + 3))) rfl kp_6 dX9_readForm_75 ?_
            refine T_aload_n (pc := 78) C dX9_readForm_78 rfl 2 rfl ?_
            refine Tc_geti (pc := 79) C r0 9 2 6 k0 (by decide) (fun _ => rfl) rfl inX9 (by decide) rfl kp_7 dX9_readForm_79 (fun z27 => ?_)
            refine T_iconst (pc := 82) C dX9_readForm_82 ?_
            refine T_imul (pc := 83) C dX9_readForm_83 ?_
            refine T_iload (pc := 84) C dX9_readForm_84 5 rfl ?_
            refine T_iadd (pc := 86) C dX9_readForm_86 ?_
            refine T_aload_n (pc := 87) C dX9_readForm_87 rfl 2 rfl ?_
            refine T_iload_n (pc := 88) C dX9_readForm_88 rfl 4 rfl ?_
            refine T_iload (pc := 89) C dX9_readForm_89 0 rfl ?_
            refine T_czVip (pc := 91) zk.1 hZ C [vi x3, vi v23] [vi (((s0 r0 2) * 4) + x4), .ref (ad (r0 + 3))] (fun o h9 hw => ct_X9_numberIn zk N s0 r0 x3 v23 k0 h3 hv23.1 hw o h9) kp_8 cm_X9_numberIn (rcc k0 (by decide) (fun _ => rfl) rfl) rfl rfl (Nat.le_of_ble_eq_true rfl) (by decide) (a' := 0) (b' := 0) ⟨rfl, rfl⟩ dX9_readForm_91 (fun v28 hv28 => ?_)
            refine T_guard (fun g29 => ?_)
            refine Tc_iast (pc := 94) C (r0 + 3) 24 64 (((s0 r0 2) * 4) + x4).toNat (kd_9 k0).2.2 ⟨by decide, by decide⟩ rfl g29 rfl hv28.1 dX9_readForm_94 ?_
            refine T_blS (fun s30 => ?_)
            refine T_iinc (pc := 95) (L' := [(4, vi (x4 + 1)), (7, vi v23), (6, vi v22), (0, .ref (ad r0)), (1, .ref (E 4 s1)), (3, vi x3), (5, vi x5)]) C dX9_readForm_95 (Nat.le_of_ble_eq_true rfl) 5 rfl rfl ?_
            refine T_iload (pc := 98) C dX9_readForm_98 1 rfl ?_
            refine T_istore_n (pc := 100) (L' := [(3, vi v23), (4, vi (x4 + 1)), (7, vi v23), (6, vi v22), (0, .ref (ad r0)), (1, .ref (E 4 s1)), (5, vi x5)]) C dX9_readForm_100 rfl (Nat.le_of_ble_eq_true rfl) rfl ?_
            refine T_iinc (pc := 101) (L' := [(5, vi (x5 + 1)), (3, vi v23), (4, vi (x4 + 1)), (7, vi v23), (6, vi v22), (0, .ref (ad r0)), (1, .ref (E 4 s1))]) C dX9_readForm_101 (Nat.le_of_ble_eq_true rfl) 6 rfl rfl ?_
            refine T_goto (pc := 104) C 8 dX9_readForm_104 rfl ?_
            refine T_sub (L' := [(0, .ref (ad r0)), (1, .ref (E 4 s1)), (3, vi v23), (4, vi (x4 + 1)), (5, vi (x5 + 1))]) [5, 6, 1, 2, 0] rfl ?_
            exact ih s30 v23 (x4 + 1) (x5 + 1) hv23.1 (rng_inc c26 h4 (rngL rfl)) (rng_inc c20 h5 (fln_rng _ hs1).1)
        · refine T_iload (pc := 61) C dX9_readForm_61 1 rfl ?_
          refine T_bipush (pc := 63) C dX9_readForm_63 (by decide) ?_
          refine T_icmp_ne (pc := 65) C 98 dX9_readForm_65 rfl (chr_rng hv22) (rngL rfl) (fun c31 => ?_) (fun c31 => ?_)
          · refine T_iload (pc := 98) C dX9_readForm_98 0 rfl ?_
            refine T_istore_n (pc := 100) (L' := [(3, vi v23), (7, vi v23), (6, vi v22), (0, .ref (ad r0)), (1, .ref (E 4 s1)), (4, vi x4), (5, vi x5)]) C dX9_readForm_100 rfl (Nat.le_of_ble_eq_true rfl) rfl ?_
            refine T_iinc (pc := 101) (L' := [(5, vi (x5 + 1)), (3, vi v23), (7, vi v23), (6, vi v22), (0, .ref (ad r0)), (1, .ref (E 4 s1)), (4, vi x4)]) C dX9_readForm_101 (Nat.le_of_ble_eq_true rfl) 6 rfl rfl ?_
            refine T_goto (pc := 104) C 8 dX9_readForm_104 rfl ?_
            refine T_sub (L' := [(0, .ref (ad r0)), (1, .ref (E 4 s1)), (3, vi v23), (4, vi x4), (5, vi (x5 + 1))]) [4, 5, 1, 6, 0] rfl ?_
            exact ih s0 v23 x4 (x5 + 1) hv23.1 h4 (rng_inc c20 h5 (fln_rng _ hs1).1)
          · refine T_iload (pc := 68) C dX9_readForm_68 5 rfl ?_
            refine T_iconst (pc := 70) C dX9_readForm_70 ?_
            refine T_icmp_ge (pc := 71) C 98 dX9_readForm_71 rfl h4 (rngL rfl) (fun c32 => ?_) (fun c32 => ?_)
            · refine T_iload (pc := 98) C dX9_readForm_98 0 rfl ?_
              refine T_istore_n (pc := 100) (L' := [(3, vi v23), (7, vi v23), (6, vi v22), (0, .ref (ad r0)), (1, .ref (E 4 s1)), (4, vi x4), (5, vi x5)]) C dX9_readForm_100 rfl (Nat.le_of_ble_eq_true rfl) rfl ?_
              refine T_iinc (pc := 101) (L' := [(5, vi (x5 + 1)), (3, vi v23), (7, vi v23), (6, vi v22), (0, .ref (ad r0)), (1, .ref (E 4 s1)), (4, vi x4)]) C dX9_readForm_101 (Nat.le_of_ble_eq_true rfl) 6 rfl rfl ?_
              refine T_goto (pc := 104) C 8 dX9_readForm_104 rfl ?_
              refine T_sub (L' := [(0, .ref (ad r0)), (1, .ref (E 4 s1)), (3, vi v23), (4, vi x4), (5, vi (x5 + 1))]) [4, 5, 1, 6, 0] rfl ?_
              exact ih s0 v23 x4 (x5 + 1) hv23.1 h4 (rng_inc c20 h5 (fln_rng _ hs1).1)
            · refine T_aload_n (pc := 74) C dX9_readForm_74 rfl 2 rfl ?_
              refine Tc_getr (pc := 75) C r0 9 5 6 k0 (by decide) (fun _ => rfl) rfl inX9 (by decide) (v := .ref (ad (r0 + 3))) rfl kp_6 dX9_readForm_75 ?_
              refine T_aload_n (pc := 78) C dX9_readForm_78 rfl 2 rfl ?_
              refine Tc_geti (pc := 79) C r0 9 2 6 k0 (by decide) (fun _ => rfl) rfl inX9 (by decide) rfl kp_7 dX9_readForm_79 (fun z33 => ?_)
              refine T_iconst (pc := 82) C dX9_readForm_82 ?_
              refine T_imul (pc := 83) C dX9_readForm_83 ?_
              refine T_iload (pc := 84) C dX9_readForm_84 5 rfl ?_
              refine T_iadd (pc := 86) C dX9_readForm_86 ?_
              refine T_aload_n (pc := 87) C dX9_readForm_87 rfl 2 rfl ?_
              refine T_iload_n (pc := 88) C dX9_readForm_88 rfl 4 rfl ?_
              refine T_iload (pc := 89) C dX9_readForm_89 0 rfl ?_
              refine T_czVip (pc := 91) zk.1 hZ C [vi x3, vi v23] [vi (((s0 r0 2) * 4) + x4), .ref (ad (r0 + 3))] (fun o h9 hw => ct_X9_numberIn zk N s0 r0 x3 v23 k0 h3 hv23.1 hw o h9) kp_8 cm_X9_numberIn (rcc k0 (by decide) (fun _ => rfl) rfl) rfl rfl (Nat.le_of_ble_eq_true rfl) (by decide) (a' := 0) (b' := 0) ⟨rfl, rfl⟩ dX9_readForm_91 (fun v34 hv34 => ?_)
              refine T_guard (fun g35 => ?_)
              refine Tc_iast (pc := 94) C (r0 + 3) 24 64 (((s0 r0 2) * 4) + x4).toNat (kd_9 k0).2.2 ⟨by decide, by decide⟩ rfl g35 rfl hv34.1 dX9_readForm_94 ?_
              refine T_blS (fun s36 => ?_)
              refine T_iinc (pc := 95) (L' := [(4, vi (x4 + 1)), (7, vi v23), (6, vi v22), (0, .ref (ad r0)), (1, .ref (E 4 s1)), (3, vi x3), (5, vi x5)]) C dX9_readForm_95 (Nat.le_of_ble_eq_true rfl) 5 rfl rfl ?_
              refine T_iload (pc := 98) C dX9_readForm_98 1 rfl ?_
              refine T_istore_n (pc := 100) (L' := [(3, vi v23), (4, vi (x4 + 1)), (7, vi v23), (6, vi v22), (0, .ref (ad r0)), (1, .ref (E 4 s1)), (5, vi x5)]) C dX9_readForm_100 rfl (Nat.le_of_ble_eq_true rfl) rfl ?_
              refine T_iinc (pc := 101) (L' := [(5, vi (x5 + 1)), (3, vi v23), (4, vi (x4 + 1)), (7, vi v23), (6, vi v22), (0, .ref (ad r0)), (1, .ref (E 4 s1))]) C dX9_readForm_101 (Nat.le_of_ble_eq_true rfl) 6 rfl rfl ?_
              refine T_goto (pc := 104) C 8 dX9_readForm_104 rfl ?_
              refine T_sub (L' := [(0, .ref (ad r0)), (1, .ref (E 4 s1)), (3, vi v23), (4, vi (x4 + 1)), (5, vi (x5 + 1))]) [5, 6, 1, 2, 0] rfl ?_
              exact ih s36 v23 (x4 + 1) (x5 + 1) hv23.1 (rng_inc c32 h4 (rngL rfl)) (rng_inc c20 h5 (fln_rng _ hs1).1)
      · refine T_aload_n (pc := 40) C dX9_readForm_40 rfl 2 rfl ?_
        refine T_aload_n (pc := 41) C dX9_readForm_41 rfl 2 rfl ?_
        refine Tc_geti (pc := 42) C r0 9 3 6 k0 (by decide) (fun _ => rfl) rfl inX9 (by decide) rfl kp_9 dX9_readForm_42 (fun z37 => ?_)
        refine T_iload_n (pc := 45) C dX9_readForm_45 rfl 4 rfl ?_
        refine T_czSip (pc := 46) zk.1 hZ C [vi (s0 r0 3), vi x3] [.ref (ad r0)] (fun o h9 hw => ct_J9_max_7cf53 zk s0 (s0 r0 3) x3 z37 h3 hw o h9) kp_10 cm_J9_max_7cf53 rfl rfl (Nat.le_of_ble_eq_true rfl) (by decide) (a' := 0) (b' := 0) ⟨rfl, rfl⟩ dX9_readForm_46 (fun v38 hv38 => ?_)
        refine Tc_put (pc := 49) C (ty := .int) r0 9 3 6 k0 (by decide) (fun _ => rfl) rfl inX9 (by decide) (fun _ => rfl) hv38.1 tyX9 tyX9_ok nmX9 rfl (Nat.le_of_ble_eq_true rfl) kp_9 rfl (nar_I _) (fit_I _) dX9_readForm_49 ?_
        refine T_blS (fun s39 => ?_)
        refine T_iconst (pc := 52) C dX9_readForm_52 ?_
        exact T_iret (pc := 53) (Sum.inl (s39, (-1))) (fun h9 => h9) (rngL rfl) (nar_I _) (by decide) dX9_readForm_53
def f_X9_readForm (N : Nat) (σ : Sm) (r0 : Nat) (s1 : Nat) (x2 : Int) : Option (Sm × Int) :=
  (f_X9_readForm_8 N r0 s1 N σ x2 0 0).bind (Sum.elim (fun v => some v) fun q40 => some (q40.1, q40.2))
theorem ct_X9_readForm {l : Launch} {cy : Nat → ClassId} {ad : Nat → Nat} {E : Nat → Nat → Nat} {G : va_G} {Z : vZ} (zk : Zk Z E) (zc : ZC Z E) (zs : ZS Z E) (N : Nat) (σ : Sm) (r0 : Nat) (s1 : Nat) (x2 : Int) (k0 : kd r0 = 9) (hs1 : s1 < 14) (h2 : rng x2) (hw : wfc σ) (o : Sm × Int) (h : f_X9_readForm N σ r0 s1 x2 = some o) : CzI Z l yX9_readForm cX9_readForm 8 (some .int) rm_X9_readForm (wlc cy ad E) wfc G (tyc cy) [.ref (ad r0), .ref (E 4 s1), vi x2] σ o.1 o.2 := by
  refine czI_of zk.1 (plainFor_of_name (by decide)) (Nat.le_of_ble_eq_true rfl) hw o o h (fun X Y w => EndI X Y cX9_readForm rm_X9_readForm .int w) (fun _ _ h => h) (fun X A Q hZ hX C => ?_)
  replace C : Cx X (Yc cy ad E G A 8 Q) cX9_readForm RX9 (some .int) rm_X9_readForm (tyc cy) := C
  replace hZ : Zx Z X (Yc cy ad E G A 8 Q) := hZ
  show T X (Yc cy ad E G A 8 Q) (fun w => EndI X (Yc cy ad E G A 8 Q) cX9_readForm rm_X9_readForm .int w) 0 0 0 [(0, .ref (ad r0)), (1, .ref (E 4 s1)), (2, vi x2)] [] σ (f_X9_readForm N σ r0 s1 x2)
  unfold f_X9_readForm
  refine T_iload_n (pc := 0) C dX9_readForm_0 rfl 2 rfl ?_
  refine T_istore_n (pc := 1) (L' := [(3, vi x2), (0, .ref (ad r0)), (1, .ref (E 4 s1)), (2, vi x2)]) C dX9_readForm_1 rfl (Nat.le_of_ble_eq_true rfl) rfl ?_
  refine T_iconst (pc := 2) C dX9_readForm_2 ?_
  refine T_istore (pc := 3) (L' := [(4, vi 0), (3, vi x2), (0, .ref (ad r0)), (1, .ref (E 4 s1)), (2, vi x2)]) C dX9_readForm_3 (Nat.le_of_ble_eq_true rfl) rfl ?_
  refine T_iconst (pc := 5) C dX9_readForm_5 ?_
  refine T_istore (pc := 6) (L' := [(5, vi 0), (4, vi 0), (3, vi x2), (0, .ref (ad r0)), (1, .ref (E 4 s1)), (2, vi x2)]) C dX9_readForm_6 (Nat.le_of_ble_eq_true rfl) rfl ?_
  refine T_sub (L' := [(0, .ref (ad r0)), (1, .ref (E 4 s1)), (3, vi x2), (4, vi 0), (5, vi 0)]) [3, 4, 2, 1, 0] rfl ?_
  refine T_loopS (g := fun v => v) (lp_X9_readForm_8 zk zc zs hZ C N r0 s1 k0 hs1 N σ x2 0 0 h2 (rngL rfl) (rngL rfl)) (fun v h9 => h9) (fun q40 hq40 => ?_)
  refine T_iload_n (pc := 107) C dX9_readForm_107 rfl 0 rfl ?_
  exact T_iret (pc := 108) (q40.1, q40.2) (fun h9 => h9) hq40 (nar_I _) (by decide) dX9_readForm_108
abbrev rm_X9_readCommand : Room := ⟨5, 0, 0, 167⟩
theorem cm_X9_readCommand : cmV yX9_readCommand cX9_readCommand 4 (some .int) 1 := ⟨kp_1, kp_11, ⟨by decide +kernel, by decide +kernel, by decide +kernel⟩, kp_18, kp_19⟩
def f_X9_readCommand_7 (N : Nat) (r0 : Nat) (x1 : Int) : Nat → Sm → Int → Option ((Sm × Int) ⊕ Sm)
  | 0, _, _ => none
  | n + 1, s0, x2 => (if 14 ≤ x2 then some (.inr s0) else if 0 ≤ x2 ∧ x2 < 14 then (f_X9_readForm N s0 r0 x2.toNat x1).bind fun v10 => (if v10.2 = (-1) then f_X9_readCommand_7 N r0 x1 n v10.1 (x2 + 1) else if 0 ≤ (v10.1 r0 2) ∧ (v10.1 r0 2) < 16 then bl (upm v10.1 (r0 + 2) (v10.1 r0 2).toNat x2) fun s14 => some (.inl (s14, v10.2)) else none) else none)
theorem lp_X9_readCommand_7 {X : vjX} {A : Nat → Prop} {Q : State → Prop} {cy : Nat → ClassId} {ad : Nat → Nat} {E : Nat → Nat → Nat} {G : va_G} {Z : vZ} (zk : Zk Z E) (zc : ZC Z E) (zs : ZS Z E) (hZ : Zx Z X (Yc cy ad E G A 4 Q)) (C : Cx X (Yc cy ad E G A 4 Q) cX9_readCommand RX9 (some .int) rm_X9_readCommand (tyc cy)) (N : Nat) (r0 : Nat) (k0 : kd r0 = 9) (x1 : Int) (h1 : rng x1) : ∀ (n : Nat) (s0 : Sm) (x2 : Int) (h2 : rng x2), T X (Yc cy ad E G A 4 Q) (Sum.elim (fun w => EndI X (Yc cy ad E G A 4 Q) cX9_readCommand rm_X9_readCommand .int w) (fun (q : Sm) => True → J X (Yc cy ad E G A 4 Q) 0 0 56 [] [] q)) 0 0 7 [(0, .ref (ad r0)), (1, vi x1), (2, vi x2)] [] s0 (f_X9_readCommand_7 N r0 x1 n s0 x2) := by
  intro n
  induction n with
  | zero => intro s0 x2 h2; exact T_none
  | succ n ih =>
    intro s0 x2 h2
    rw [f_X9_readCommand_7]
    refine T_iload_n (pc := 7) C dX9_readCommand_7 rfl 2 rfl ?_
    refine T_cmds zs hZ (pc := 8) C kp_14 dX9_readCommand_8 ?_
    refine T_cmdsLen zs hZ (pc := 11) C dX9_readCommand_11 ?_
    refine T_icmp_ge (pc := 12) C 56 dX9_readCommand_12 rfl h2 (rngL rfl) (fun c7 => ?_) (fun c7 => ?_)
    · refine T_sub (L' := []) [] rfl ?_
      exact T_exit (fun h9 => h9 trivial)
    · refine T_aload_n (pc := 15) C dX9_readCommand_15 rfl 0 rfl ?_
      refine T_cmds zs hZ (pc := 16) C kp_14 dX9_readCommand_16 ?_
      refine T_iload_n (pc := 19) C dX9_readCommand_19 rfl 2 rfl ?_
      refine T_guard (fun g8 => ?_)
      refine T_cmdsAt zs hZ (pc := 20) C g8 dX9_readCommand_20 ?_
      refine T_form zs hZ (pc := 21) C g8 kp_15 dX9_readCommand_21 (fun f9 => ?_)
      refine T_iload_n (pc := 24) C dX9_readCommand_24 rfl 1 rfl ?_
      refine T_czVi (pc := 25) zk.1 hZ C [.ref (E 4 x2.toNat), vi x1] [] (fun o h9 hw => ct_X9_readForm zk zc zs N s0 r0 x2.toNat x1 k0 f9 h1 hw o h9) kp_16 cm_X9_readForm (rcc k0 (by decide) (fun _ => rfl) rfl) rfl rfl (Nat.le_of_ble_eq_true rfl) (by decide) (a' := 0) (b' := 0) ⟨rfl, rfl⟩ dX9_readCommand_25 (fun v10 hv10 => ?_)
      refine T_istore_n (pc := 28) (L' := [(3, vi v10.2), (0, .ref (ad r0)), (1, vi x1), (2, vi x2)]) C dX9_readCommand_28 rfl (Nat.le_of_ble_eq_true rfl) rfl ?_
      refine T_iload_n (pc := 29) C dX9_readCommand_29 rfl 0 rfl ?_
      refine T_iconst (pc := 30) C dX9_readCommand_30 ?_
      refine T_icmp_eq (pc := 31) C 50 dX9_readCommand_31 rfl hv10.1 (rngL rfl) (fun c11 => ?_) (fun c11 => ?_)
      · refine T_iinc (pc := 50) (L' := [(2, vi (x2 + 1)), (3, vi v10.2), (0, .ref (ad r0)), (1, vi x1)]) C dX9_readCommand_50 (Nat.le_of_ble_eq_true rfl) 3 rfl rfl ?_
        refine T_goto (pc := 53) C 7 dX9_readCommand_53 rfl ?_
        refine T_sub (L' := [(0, .ref (ad r0)), (1, vi x1), (2, vi (x2 + 1))]) [2, 3, 0] rfl ?_
        exact ih v10.1 (x2 + 1) (rng_inc c7 h2 (rngL rfl))
      · refine T_aload_n (pc := 34) C dX9_readCommand_34 rfl 1 rfl ?_
        refine Tc_getr (pc := 35) C r0 9 4 6 k0 (by decide) (fun _ => rfl) rfl inX9 (by decide) (v := .ref (ad (r0 + 2))) rfl kp_17 dX9_readCommand_35 ?_
        refine T_aload_n (pc := 38) C dX9_readCommand_38 rfl 1 rfl ?_
        refine Tc_geti (pc := 39) C r0 9 2 6 k0 (by decide) (fun _ => rfl) rfl inX9 (by decide) rfl kp_7 dX9_readCommand_39 (fun z12 => ?_)
        refine T_cmds zs hZ (pc := 42) C kp_14 dX9_readCommand_42 ?_
        refine T_iload_n (pc := 45) C dX9_readCommand_45 rfl 3 rfl ?_
        refine T_cmdsAt zs hZ (pc := 46) C g8 dX9_readCommand_46 ?_
        refine T_guard (fun g13 => ?_)
        refine Tc_ast30 zc hZ (pc := 47) C (r0 + 2) (v10.1 r0 2).toNat (kd_9 k0).2.1 g8 g13 rfl dX9_readCommand_47 ?_
        refine T_blS (fun s14 => ?_)
        refine T_iload_n (pc := 48) C dX9_readCommand_48 rfl 0 rfl ?_
        exact T_iret (pc := 49) (Sum.inl (s14, v10.2)) (fun h9 => h9) hv10.1 (nar_I _) (by decide) dX9_readCommand_49
def f_X9_readCommand (N : Nat) (σ : Sm) (r0 : Nat) (x1 : Int) : Option (Sm × Int) :=
  bl (upm σ r0 3 x1) fun s1 => (f_X9_readCommand_7 N r0 x1 N s1 0).bind (Sum.elim (fun v => some v) fun q15 => some (q15, (-1)))
theorem ct_X9_readCommand {l : Launch} {cy : Nat → ClassId} {ad : Nat → Nat} {E : Nat → Nat → Nat} {G : va_G} {Z : vZ} (zk : Zk Z E) (zc : ZC Z E) (zs : ZS Z E) (N : Nat) (σ : Sm) (r0 : Nat) (x1 : Int) (k0 : kd r0 = 9) (h1 : rng x1) (hw : wfc σ) (o : Sm × Int) (h : f_X9_readCommand N σ r0 x1 = some o) : CzI Z l yX9_readCommand cX9_readCommand 4 (some .int) rm_X9_readCommand (wlc cy ad E) wfc G (tyc cy) [.ref (ad r0), vi x1] σ o.1 o.2 := by
  refine czI_of zk.1 (plainFor_of_name (by decide)) (Nat.le_of_ble_eq_true rfl) hw o o h (fun X Y w => EndI X Y cX9_readCommand rm_X9_readCommand .int w) (fun _ _ h => h) (fun X A Q hZ hX C => ?_)
  replace C : Cx X (Yc cy ad E G A 4 Q) cX9_readCommand RX9 (some .int) rm_X9_readCommand (tyc cy) := C
  replace hZ : Zx Z X (Yc cy ad E G A 4 Q) := hZ
  show T X (Yc cy ad E G A 4 Q) (fun w => EndI X (Yc cy ad E G A 4 Q) cX9_readCommand rm_X9_readCommand .int w) 0 0 0 [(0, .ref (ad r0)), (1, vi x1)] [] σ (f_X9_readCommand N σ r0 x1)
  unfold f_X9_readCommand
  refine T_aload_n (pc := 0) C dX9_readCommand_0 rfl 0 rfl ?_
  refine T_iload_n (pc := 1) C dX9_readCommand_1 rfl 1 rfl ?_
  refine Tc_put (pc := 2) C (ty := .int) r0 9 3 6 k0 (by decide) (fun _ => rfl) rfl inX9 (by decide) (fun _ => rfl) h1 tyX9 tyX9_ok nmX9 rfl (Nat.le_of_ble_eq_true rfl) kp_9 rfl (nar_I _) (fit_I _) dX9_readCommand_2 ?_
  refine T_blS (fun s1 => ?_)
  refine T_iconst (pc := 5) C dX9_readCommand_5 ?_
  refine T_istore_n (pc := 6) (L' := [(2, vi 0), (0, .ref (ad r0)), (1, vi x1)]) C dX9_readCommand_6 rfl (Nat.le_of_ble_eq_true rfl) rfl ?_
  refine T_sub (L' := [(0, .ref (ad r0)), (1, vi x1), (2, vi 0)]) [1, 2, 0] rfl ?_
  refine T_loopS (g := fun v => v) (lp_X9_readCommand_7 zk zc zs hZ C N r0 k0 x1 h1 N s1 0 (rngL rfl)) (fun v h9 => h9) (fun q15 hq15 => ?_)
  refine T_iconst (pc := 56) C dX9_readCommand_56 ?_
  exact T_iret (pc := 57) (q15, (-1)) (fun h9 => h9) (rngL rfl) (nar_I _) (by decide) dX9_readCommand_57
abbrev rm_X9_parse : Room := ⟨6, 0, 0, 190⟩
theorem cm_X9_parse : cmV yX9_parse cX9_parse 2 (some .boolean) 0 := ⟨kp_2, kp_11, ⟨by decide +kernel, by decide +kernel, by decide +kernel⟩, kp_23, kp_24⟩
def f_X9_parse_12 (N : Nat) (r0 : Nat) : Nat → Sm → Int → Option ((Sm × Int) ⊕ Sm)
  | 0, _, _ => none
  | n + 1, s0, x1 => (if 16 ≤ (s0 r0 2) then some (.inr s0) else (f_X9_readCommand N s0 r0 x1).bind fun v17 => (if v17.2 = (-1) then some (.inl (v17.1, 0)) else if rng ((v17.1 r0 2) + 1) then bl (upm v17.1 r0 2 ((v17.1 r0 2) + 1)) fun s21 => (if v17.2 = (s21 r0 1) then some (.inl (s21, 1)) else if 0 ≤ v17.2 ∧ v17.2 < 60 then (if (s21 (r0 + 1) v17.2.toNat) = 59 then if rng (v17.2 + 1) then f_X9_parse_12 N r0 n s21 (v17.2 + 1) else none else bl (upm s21 r0 3 v17.2) fun s28 => some (.inl (s28, 0))) else none) else none))
theorem lp_X9_parse_12 {X : vjX} {A : Nat → Prop} {Q : State → Prop} {cy : Nat → ClassId} {ad : Nat → Nat} {E : Nat → Nat → Nat} {G : va_G} {Z : vZ} (zk : Zk Z E) (zc : ZC Z E) (zs : ZS Z E) (hZ : Zx Z X (Yc cy ad E G A 2 Q)) (C : Cx X (Yc cy ad E G A 2 Q) cX9_parse RX9 (some .boolean) rm_X9_parse (tyc cy)) (N : Nat) (r0 : Nat) (k0 : kd r0 = 9) : ∀ (n : Nat) (s0 : Sm) (x1 : Int) (h1 : rng x1), T X (Yc cy ad E G A 2 Q) (Sum.elim (fun w => EndI X (Yc cy ad E G A 2 Q) cX9_parse rm_X9_parse .boolean w) (fun (q : Sm) => True → J X (Yc cy ad E G A 2 Q) 0 0 78 [(0, .ref (ad r0))] [] q)) 0 0 12 [(0, .ref (ad r0)), (1, vi x1)] [] s0 (f_X9_parse_12 N r0 n s0 x1) := by
  intro n
  induction n with
  | zero => intro s0 x1 h1; exact T_none
  | succ n ih =>
    intro s0 x1 h1
    rw [f_X9_parse_12]
    refine T_aload_n (pc := 12) C dX9_parse_12 rfl 0 rfl ?_
    refine Tc_geti (pc := 13) C r0 9 2 6 k0 (by decide) (fun _ => rfl) rfl inX9 (by decide) rfl kp_7 dX9_parse_13 (fun z15 => ?_)
    refine T_bipush (pc := 16) C dX9_parse_16 (by decide) ?_
    refine T_icmp_ge (pc := 18) C 78 dX9_parse_18 rfl z15 (rngL rfl) (fun c16 => ?_) (fun c16 => ?_)
    · refine T_sub (L' := [(0, .ref (ad r0))]) [0] rfl ?_
      exact T_exit (fun h9 => h9 trivial)
    · refine T_aload_n (pc := 21) C dX9_parse_21 rfl 0 rfl ?_
      refine T_iload_n (pc := 22) C dX9_parse_22 rfl 1 rfl ?_
      refine T_czVi (pc := 23) zk.1 hZ C [vi x1] [] (fun o h9 hw => ct_X9_readCommand zk zc zs N s0 r0 x1 k0 h1 hw o h9) kp_20 cm_X9_readCommand (rcc k0 (by decide) (fun _ => rfl) rfl) rfl rfl (Nat.le_of_ble_eq_true rfl) (by decide) (a' := 0) (b' := 0) ⟨rfl, rfl⟩ dX9_parse_23 (fun v17 hv17 => ?_)
      refine T_istore_n (pc := 26) (L' := [(1, vi v17.2), (0, .ref (ad r0))]) C dX9_parse_26 rfl (Nat.le_of_ble_eq_true rfl) rfl ?_
      refine T_iload_n (pc := 27) C dX9_parse_27 rfl 0 rfl ?_
      refine T_iconst (pc := 28) C dX9_parse_28 ?_
      refine T_icmp_ne (pc := 29) C 34 dX9_parse_29 rfl hv17.1 (rngL rfl) (fun c18 => ?_) (fun c18 => ?_)
      · refine T_aload_n (pc := 34) C dX9_parse_34 rfl 1 rfl ?_
        refine T_dup (pc := 35) C dX9_parse_35 rfl ?_
        refine Tc_geti (pc := 36) C r0 9 2 6 k0 (by decide) (fun _ => rfl) rfl inX9 (by decide) rfl kp_7 dX9_parse_36 (fun z19 => ?_)
        refine T_iconst (pc := 39) C dX9_parse_39 ?_
        refine T_iadd (pc := 40) C dX9_parse_40 ?_
        refine T_guard (fun g20 => ?_)
        refine Tc_put (pc := 41) C (ty := .int) r0 9 2 6 k0 (by decide) (fun _ => rfl) rfl inX9 (by decide) (fun _ => rfl) g20 tyX9 tyX9_ok nmX9 rfl (Nat.le_of_ble_eq_true rfl) kp_7 rfl (nar_I _) (fit_I _) dX9_parse_41 ?_
        refine T_blS (fun s21 => ?_)
        refine T_iload_n (pc := 44) C dX9_parse_44 rfl 0 rfl ?_
        refine T_aload_n (pc := 45) C dX9_parse_45 rfl 1 rfl ?_
        refine Tc_geti (pc := 46) C r0 9 1 6 k0 (by decide) (fun _ => rfl) rfl inX9 (by decide) rfl kp_21 dX9_parse_46 (fun z22 => ?_)
        refine T_icmp_ne (pc := 49) C 54 dX9_parse_49 rfl hv17.1 z22 (fun c23 => ?_) (fun c23 => ?_)
        · refine T_aload_n (pc := 54) C dX9_parse_54 rfl 1 rfl ?_
          refine Tc_getr (pc := 55) C r0 9 0 6 k0 (by decide) (fun _ => rfl) rfl inX9 (by decide) (v := .ref (ad (r0 + 1))) rfl kp_22 dX9_parse_55 ?_
          refine T_iload_n (pc := 58) C dX9_parse_58 rfl 0 rfl ?_
          refine T_guard (fun g24 => ?_)
          refine Tc_cald (pc := 59) C (r0 + 1) v17.2.toNat (kd_9 k0).1 g24 rfl dX9_parse_59 (fun z25 => ?_)
          refine T_bipush (pc := 60) C dX9_parse_60 (by decide) ?_
          refine T_icmp_eq (pc := 62) C 72 dX9_parse_62 rfl (chr_rng z25) (rngL rfl) (fun c26 => ?_) (fun c26 => ?_)
          · refine T_iinc (pc := 72) (L' := [(1, vi (v17.2 + 1)), (0, .ref (ad r0))]) C dX9_parse_72 (Nat.le_of_ble_eq_true rfl) 0 rfl rfl ?_
            refine T_goto (pc := 75) C 12 dX9_parse_75 rfl ?_
            refine T_sub (L' := [(0, .ref (ad r0)), (1, vi (v17.2 + 1))]) [1, 0] rfl ?_
            refine T_guard (fun g27 => ?_)
            exact ih s21 (v17.2 + 1) g27
          · refine T_aload_n (pc := 65) C dX9_parse_65 rfl 1 rfl ?_
            refine T_iload_n (pc := 66) C dX9_parse_66 rfl 0 rfl ?_
            refine Tc_put (pc := 67) C (ty := .int) r0 9 3 6 k0 (by decide) (fun _ => rfl) rfl inX9 (by decide) (fun _ => rfl) hv17.1 tyX9 tyX9_ok nmX9 rfl (Nat.le_of_ble_eq_true rfl) kp_9 rfl (nar_I _) (fit_I _) dX9_parse_67 ?_
            refine T_blS (fun s28 => ?_)
            refine T_iconst (pc := 70) C dX9_parse_70 ?_
            exact T_iret (pc := 71) (Sum.inl (s28, 0)) (fun h9 => h9) (rngL rfl) (nar_Z (Or.inl rfl)) (by decide) dX9_parse_71
        · refine T_iconst (pc := 52) C dX9_parse_52 ?_
          exact T_iret (pc := 53) (Sum.inl (s21, 1)) (fun h9 => h9) (rngL rfl) (nar_Z (Or.inr rfl)) (by decide) dX9_parse_53
      · refine T_iconst (pc := 32) C dX9_parse_32 ?_
        exact T_iret (pc := 33) (Sum.inl (v17.1, 0)) (fun h9 => h9) (rngL rfl) (nar_Z (Or.inl rfl)) (by decide) dX9_parse_33
def f_X9_parse (N : Nat) (σ : Sm) (r0 : Nat) : Option (Sm × Int) :=
  bl (upm σ r0 2 0) fun s1 => bl (upm s1 r0 3 0) fun s2 => (f_X9_parse_12 N r0 N s2 0).bind (Sum.elim (fun v => some v) fun q29 => bl (upm q29 r0 3 (q29 r0 1)) fun s31 => some (s31, 0))
theorem ct_X9_parse {l : Launch} {cy : Nat → ClassId} {ad : Nat → Nat} {E : Nat → Nat → Nat} {G : va_G} {Z : vZ} (zk : Zk Z E) (zc : ZC Z E) (zs : ZS Z E) (N : Nat) (σ : Sm) (r0 : Nat) (k0 : kd r0 = 9) (hw : wfc σ) (o : Sm × Int) (h : f_X9_parse N σ r0 = some o) : CzI Z l yX9_parse cX9_parse 2 (some .boolean) rm_X9_parse (wlc cy ad E) wfc G (tyc cy) [.ref (ad r0)] σ o.1 o.2 := by
  refine czI_of zk.1 (plainFor_of_name (by decide)) (Nat.le_of_ble_eq_true rfl) hw o o h (fun X Y w => EndI X Y cX9_parse rm_X9_parse .boolean w) (fun _ _ h => h) (fun X A Q hZ hX C => ?_)
  replace C : Cx X (Yc cy ad E G A 2 Q) cX9_parse RX9 (some .boolean) rm_X9_parse (tyc cy) := C
  replace hZ : Zx Z X (Yc cy ad E G A 2 Q) := hZ
  show T X (Yc cy ad E G A 2 Q) (fun w => EndI X (Yc cy ad E G A 2 Q) cX9_parse rm_X9_parse .boolean w) 0 0 0 [(0, .ref (ad r0))] [] σ (f_X9_parse N σ r0)
  unfold f_X9_parse
  refine T_aload_n (pc := 0) C dX9_parse_0 rfl 0 rfl ?_
  refine T_iconst (pc := 1) C dX9_parse_1 ?_
  refine Tc_put (pc := 2) C (ty := .int) r0 9 2 6 k0 (by decide) (fun _ => rfl) rfl inX9 (by decide) (fun _ => rfl) (rngL rfl) tyX9 tyX9_ok nmX9 rfl (Nat.le_of_ble_eq_true rfl) kp_7 rfl (nar_I _) (fit_I _) dX9_parse_2 ?_
  refine T_blS (fun s1 => ?_)
  refine T_aload_n (pc := 5) C dX9_parse_5 rfl 0 rfl ?_
  refine T_iconst (pc := 6) C dX9_parse_6 ?_
  refine Tc_put (pc := 7) C (ty := .int) r0 9 3 6 k0 (by decide) (fun _ => rfl) rfl inX9 (by decide) (fun _ => rfl) (rngL rfl) tyX9 tyX9_ok nmX9 rfl (Nat.le_of_ble_eq_true rfl) kp_9 rfl (nar_I _) (fit_I _) dX9_parse_7 ?_
  refine T_blS (fun s2 => ?_)
  refine T_iconst (pc := 10) C dX9_parse_10 ?_
  refine T_istore_n (pc := 11) (L' := [(1, vi 0), (0, .ref (ad r0))]) C dX9_parse_11 rfl (Nat.le_of_ble_eq_true rfl) rfl ?_
  refine T_sub (L' := [(0, .ref (ad r0)), (1, vi 0)]) [1, 0] rfl ?_
  refine T_loopS (g := fun v => v) (lp_X9_parse_12 zk zc zs hZ C N r0 k0 N s2 0 (rngL rfl)) (fun v h9 => h9) (fun q29 hq29 => ?_)
  refine T_aload_n (pc := 78) C dX9_parse_78 rfl 0 rfl ?_
  refine T_aload_n (pc := 79) C dX9_parse_79 rfl 0 rfl ?_
  refine Tc_geti (pc := 80) C r0 9 1 6 k0 (by decide) (fun _ => rfl) rfl inX9 (by decide) rfl kp_21 dX9_parse_80 (fun z30 => ?_)
  refine Tc_put (pc := 83) C (ty := .int) r0 9 3 6 k0 (by decide) (fun _ => rfl) rfl inX9 (by decide) (fun _ => rfl) z30 tyX9 tyX9_ok nmX9 rfl (Nat.le_of_ble_eq_true rfl) kp_9 rfl (nar_I _) (fit_I _) dX9_parse_83 ?_
  refine T_blS (fun s31 => ?_)
  refine T_iconst (pc := 86) C dX9_parse_86 ?_
  exact T_iret (pc := 87) (s31, 0) (fun h9 => h9) (rngL rfl) (nar_Z (Or.inl rfl)) (by decide) dX9_parse_87
