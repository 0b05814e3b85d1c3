abbrev rm_X1_begin : Room := ⟨0, 0, 0, 0⟩
theorem cm_X1_begin : cmV yX1_begin cX1_begin 4 none 2 := ⟨kc_0, kc_99, ⟨by decide +kernel, by decide +kernel, by decide +kernel⟩, kc_100, kc_101⟩
def f_X1_begin_2 (r0 : Nat) (x1 : Int) (x2 : Int) : Nat → Sm → Int → Option (Sm)
  | 0, _, _ => none
  | n + 1, s0, x3 => (if 10 ≤ x3 then some s0 else if 0 ≤ x3 ∧ x3 < 10 then bl (upm s0 (r0 + 1) x3.toNat 1000000000) fun s9 => bl (upm s9 (r0 + 2) x3.toNat 1000000000) fun s10 => bl (upm s10 (r0 + 3) x3.toNat 0) fun s11 => bl (upm s11 (r0 + 4) x3.toNat 0) fun s12 => f_X1_begin_2 r0 x1 x2 n s12 (x3 + 1) else none)
theorem lp_X1_begin_2 {X : vjX} {A : Nat → Prop} {Q : State → Prop} {cy : Nat → ClassId} {ad : Nat → Nat} {E : Nat → Nat → Nat} {G : va_G} {Z : vZ} (zk : Zk Z E) (hZ : Zx Z X (Yc cy ad E G A 4 Q)) (C : Cx X (Yc cy ad E G A 4 Q) cX1_begin RX1 none rm_X1_begin (tyc cy)) (r0 : Nat) (k0 : kd r0 = 1) (x1 : Int) (x2 : Int) (h1 : rng x1) (h2 : rng x2) : ∀ (n : Nat) (s0 : Sm) (x3 : Int) (h3 : rng x3), T X (Yc cy ad E G A 4 Q) (fun (q : Sm) => True → J X (Yc cy ad E G A 4 Q) 0 0 44 [(0, .ref (ad r0)), (1, vi x1), (2, vi x2)] [] q) 0 0 2 [(0, .ref (ad r0)), (1, vi x1), (2, vi x2), (3, vi x3)] [] s0 (f_X1_begin_2 r0 x1 x2 n s0 x3) := by
  intro n
  induction n with
  | zero => intro s0 x3 h3; exact T_none
  | succ n ih =>
    intro s0 x3 h3
    rw [f_X1_begin_2]
    refine T_iload_n (pc := 2) C dX1_begin_2 rfl 3 rfl ?_
    refine T_bipush (pc := 3) C dX1_begin_3 (by decide) ?_
    refine T_icmp_ge (pc := 5) C 44 dX1_begin_5 rfl h3 (rngL rfl) (fun c7 => ?_) (fun c7 => ?_)
    · refine T_sub (L' := [(0, .ref (ad r0)), (1, vi x1), (2, vi x2)]) [0, 1, 2] rfl ?_
      exact T_exit (fun h9 => h9 trivial)
    · refine T_aload_n (pc := 8) C dX1_begin_8 rfl 0 rfl ?_
      refine Tc_getr (pc := 9) C r0 1 0 4 k0 (by decide) (fun _ => rfl) rfl inX1 (by decide) (v := .ref (ad (r0 + 1))) rfl kc_94 dX1_begin_9 ?_
      refine T_iload_n (pc := 12) C dX1_begin_12 rfl 3 rfl ?_
      refine T_ldc (pc := 13) C 1000000000 dX1_begin_13 kc_95 (by decide) ?_
      refine T_guard (fun g8 => ?_)
      refine Tc_iast (pc := 15) C (r0 + 1) 20 10 x3.toNat (kd_1 k0).1 ⟨by decide, by decide⟩ rfl g8 rfl (rngL rfl) dX1_begin_15 ?_
      refine T_blS (fun s9 => ?_)
      refine T_aload_n (pc := 16) C dX1_begin_16 rfl 0 rfl ?_
      refine Tc_getr (pc := 17) C r0 1 1 4 k0 (by decide) (fun _ => rfl) rfl inX1 (by decide) (v := .ref (ad (r0 + 2))) rfl kc_96 dX1_begin_17 ?_
      refine T_iload_n (pc := 20) C dX1_begin_20 rfl 3 rfl ?_
      refine T_ldc (pc := 21) C 1000000000 dX1_begin_21 kc_95 (by decide) ?_
      refine Tc_iast (pc := 23) C (r0 + 2) 20 10 x3.toNat (kd_1 k0).2.1 ⟨by decide, by decide⟩ rfl g8 rfl (rngL rfl) dX1_begin_23 ?_
      refine T_blS (fun s10 => ?_)
      refine T_aload_n (pc := 24) C dX1_begin_24 rfl 0 rfl ?_
      refine Tc_getr (pc := 25) C r0 1 2 4 k0 (by decide) (fun _ => rfl) rfl inX1 (by decide) (v := .ref (ad (r0 + 3))) rfl kc_97 dX1_begin_25 ?_
      refine T_iload_n (pc := 28) C dX1_begin_28 rfl 3 rfl ?_
      refine T_iconst (pc := 29) C dX1_begin_29 ?_
      refine Tc_zast (pc := 30) C (r0 + 3) x3.toNat (kd_1 k0).2.2.1 g8 rfl (Or.inl rfl) dX1_begin_30 ?_
      refine T_blS (fun s11 => ?_)
      refine T_aload_n (pc := 31) C dX1_begin_31 rfl 0 rfl ?_
      refine Tc_getr (pc := 32) C r0 1 3 4 k0 (by decide) (fun _ => rfl) rfl inX1 (by decide) (v := .ref (ad (r0 + 4))) rfl kc_98 dX1_begin_32 ?_
      refine T_iload_n (pc := 35) C dX1_begin_35 rfl 3 rfl ?_
      refine T_iconst (pc := 36) C dX1_begin_36 ?_
      refine Tc_zast (pc := 37) C (r0 + 4) x3.toNat (kd_1 k0).2.2.2 g8 rfl (Or.inl rfl) dX1_begin_37 ?_
      refine T_blS (fun s12 => ?_)
      refine T_iinc (pc := 38) (L' := [(3, vi (x3 + 1)), (0, .ref (ad r0)), (1, vi x1), (2, vi x2)]) C dX1_begin_38 (Nat.le_of_ble_eq_true rfl) 3 rfl rfl ?_
      refine T_goto (pc := 41) C 2 dX1_begin_41 rfl ?_
      refine T_sub (L' := [(0, .ref (ad r0)), (1, vi x1), (2, vi x2), (3, vi (x3 + 1))]) [1, 2, 3, 0] rfl ?_
      exact ih s12 (x3 + 1) (rng_inc c7 h3 (rngL rfl))
def f_X1_begin (N : Nat) (σ : Sm) (r0 : Nat) (x1 : Int) (x2 : Int) : Option Sm :=
  (f_X1_begin_2 r0 x1 x2 N σ 0).bind fun q13 => if 0 ≤ x1 ∧ x1 < 10 then bl (upm q13 (r0 + 1) x1.toNat x2) fun s15 => bl (upm s15 (r0 + 2) x1.toNat x2) fun s16 => some s16 else none
theorem ct_X1_begin {l : Launch} {cy : Nat → ClassId} {ad : Nat → Nat} {E : Nat → Nat → Nat} {G : va_G} {Z : vZ} (zk : Zk Z E) (N : Nat) (σ : Sm) (r0 : Nat) (x1 : Int) (x2 : Int) (k0 : kd r0 = 1) (h1 : rng x1) (h2 : rng x2) (hw : wfc σ) (o : Sm) (h : f_X1_begin N σ r0 x1 x2 = some o) : CzV Z l yX1_begin cX1_begin 4 rm_X1_begin (wlc cy ad E) wfc G (tyc cy) [.ref (ad r0), vi x1, vi x2] σ o := by
  refine czV_of zk.1 (plainFor_of_name (by decide)) (Nat.le_of_ble_eq_true rfl) hw o o h (fun X Y w => EndV X Y cX1_begin rm_X1_begin w) (fun _ _ h => h) (fun X A Q hZ hX C => ?_)
  replace C : Cx X (Yc cy ad E G A 4 Q) cX1_begin RX1 none rm_X1_begin (tyc cy) := C
  replace hZ : Zx Z X (Yc cy ad E G A 4 Q) := hZ
  show T X (Yc cy ad E G A 4 Q) (fun w => EndV X (Yc cy ad E G A 4 Q) cX1_begin rm_X1_begin w) 0 0 0 [(0, .ref (ad r0)), (1, vi x1), (2, vi x2)] [] σ (f_X1_begin N σ r0 x1 x2)
  unfold f_X1_begin
  refine T_iconst (pc := 0) C dX1_begin_0 ?_
  refine T_istore_n (pc := 1) (L' := [(3, vi 0), (0, .ref (ad r0)), (1, vi x1), (2, vi x2)]) C dX1_begin_1 rfl (Nat.le_of_ble_eq_true rfl) rfl ?_
  refine T_sub (L' := [(0, .ref (ad r0)), (1, vi x1), (2, vi x2), (3, vi 0)]) [1, 2, 3, 0] rfl ?_
  refine T_loopE (lp_X1_begin_2 zk hZ C r0 k0 x1 x2 h1 h2 N σ 0 (rngL rfl)) (fun q13 hq13 => ?_)
  refine T_aload_n (pc := 44) C dX1_begin_44 rfl 0 rfl ?_
  refine Tc_getr (pc := 45) C r0 1 0 4 k0 (by decide) (fun _ => rfl) rfl inX1 (by decide) (v := .ref (ad (r0 + 1))) rfl kc_94 dX1_begin_45 ?_
  refine T_iload_n (pc := 48) C dX1_begin_48 rfl 1 rfl ?_
  refine T_iload_n (pc := 49) C dX1_begin_49 rfl 2 rfl ?_
  refine T_guard (fun g14 => ?_)
  refine Tc_iast (pc := 50) C (r0 + 1) 20 10 x1.toNat (kd_1 k0).1 ⟨by decide, by decide⟩ rfl g14 rfl h2 dX1_begin_50 ?_
  refine T_blS (fun s15 => ?_)
  refine T_aload_n (pc := 51) C dX1_begin_51 rfl 0 rfl ?_
  refine Tc_getr (pc := 52) C r0 1 1 4 k0 (by decide) (fun _ => rfl) rfl inX1 (by decide) (v := .ref (ad (r0 + 2))) rfl kc_96 dX1_begin_52 ?_
  refine T_iload_n (pc := 55) C dX1_begin_55 rfl 1 rfl ?_
  refine T_iload_n (pc := 56) C dX1_begin_56 rfl 2 rfl ?_
  refine Tc_iast (pc := 57) C (r0 + 2) 20 10 x1.toNat (kd_1 k0).2.1 ⟨by decide, by decide⟩ rfl g14 rfl h2 dX1_begin_57 ?_
  refine T_blS (fun s16 => ?_)
  exact T_vret (pc := 58) s16 (fun h9 => h9) (by decide) dX1_begin_58

abbrev rm_X1_earliest : Room := ⟨0, 0, 0, 0⟩
theorem cm_X1_earliest : cmS yX1_earliest cX1_earliest 6 (some .int) 3 := ⟨kc_3, kc_99, ⟨by decide +kernel, by decide +kernel, by decide +kernel⟩, kc_102⟩
def f_X1_earliest_5 (σ : Sm) (r0 : Nat) (K0 : Nat) (r1 : Nat) (x2 : Int) : Nat → Int → Int → Option (Int)
  | 0, _, _ => none
  | n + 1, x3, x4 => (if x2 ≤ x4 then some x3 else if 0 ≤ x4 ∧ x4 < 10 then (if (σ r1 x4.toNat) = 0 then if 0 ≤ x4 ∧ x4 < ((alen K0 : Nat) : Int) then (if 1000000000 ≤ (σ r0 x4.toNat) then f_X1_earliest_5 σ r0 K0 r1 x2 n x3 (x4 + 1) else (if x3 = (-1) then f_X1_earliest_5 σ r0 K0 r1 x2 n x4 (x4 + 1) else if 0 ≤ x3 ∧ x3 < ((alen K0 : Nat) : Int) then (if (σ r0 x3.toNat) ≤ (σ r0 x4.toNat) then f_X1_earliest_5 σ r0 K0 r1 x2 n x3 (x4 + 1) else f_X1_earliest_5 σ r0 K0 r1 x2 n x4 (x4 + 1)) else none)) else none else f_X1_earliest_5 σ r0 K0 r1 x2 n x3 (x4 + 1)) else none)
theorem lp_X1_earliest_5 {X : vjX} {A : Nat → Prop} {Q : State → Prop} {cy : Nat → ClassId} {ad : Nat → Nat} {E : Nat → Nat → Nat} {G : va_G} {Z : vZ} (zk : Zk Z E) (hZ : Zx Z X (Yc cy ad E G A 6 Q)) (C : Cx X (Yc cy ad E G A 6 Q) cX1_earliest RX1 (some .int) rm_X1_earliest (tyc cy)) (σ : Sm) (r0 : Nat) (K0 : Nat) (r1 : Nat) (k0 : kd r0 = K0) (i0 : isIA K0) (k1 : kd r1 = 25) (x2 : Int) (h2 : rng x2) : ∀ (n : Nat) (x3 : Int) (x4 : Int) (h3 : rng x3) (h4 : rng x4), T X (Yc cy ad E G A 6 Q) (fun (q : Int) => rng q → J X (Yc cy ad E G A 6 Q) 0 0 63 [(3, vi q)] [] σ) 0 0 5 [(0, .ref (ad r0)), (1, .ref (ad r1)), (2, vi x2), (3, vi x3), (4, vi x4)] [] σ (f_X1_earliest_5 σ r0 K0 r1 x2 n x3 x4) := by
  intro n
  induction n with
  | zero => intro x3 x4 h3 h4; exact T_none
  | succ n ih =>
    intro x3 x4 h3 h4
    rw [f_X1_earliest_5]
    refine T_iload (pc := 5) C dX1_earliest_5 4 rfl ?_
    refine T_iload_n (pc := 7) C dX1_earliest_7 rfl 2 rfl ?_
    refine T_icmp_ge (pc := 8) C 63 dX1_earliest_8 rfl h4 h2 (fun c7 => ?_) (fun c7 => ?_)
    · refine T_sub (L' := [(3, vi x3)]) [3] rfl ?_
      exact T_exit (fun h9 => h9 h3)
    · refine T_aload_n (pc := 11) C dX1_earliest_11 rfl 1 rfl ?_
      refine T_iload (pc := 12) C dX1_earliest_12 4 rfl ?_
      refine T_guard (fun g8 => ?_)
      refine Tc_zald (pc := 14) C r1 x4.toNat k1 g8 rfl dX1_earliest_14 (fun z9 => ?_)
      refine T_if_ne (pc := 15) C 31 dX1_earliest_15 rfl (bit_rng z9) (fun c10 => ?_) (fun c10 => ?_)
      · refine T_iconst (pc := 31) C dX1_earliest_31 ?_
        refine T_istore (pc := 32) (L' := [(5, vi 0), (0, .ref (ad r0)), (1, .ref (ad r1)), (2, vi x2), (3, vi x3), (4, vi x4)]) C dX1_earliest_32 (Nat.le_of_ble_eq_true rfl) rfl ?_
        refine T_iload (pc := 34) C dX1_earliest_34 0 rfl ?_
        refine T_if_eq_t (pc := 36) C 57 dX1_earliest_36 rfl (rngL rfl) (by decide) ?_
        refine T_iinc (pc := 57) (L' := [(4, vi (x4 + 1)), (5, vi 0), (0, .ref (ad r0)), (1, .ref (ad r1)), (2, vi x2), (3, vi x3)]) C dX1_earliest_57 (Nat.le_of_ble_eq_true rfl) 5 rfl rfl ?_
        refine T_goto (pc := 60) C 5 dX1_earliest_60 rfl ?_
        refine T_sub (L' := [(0, .ref (ad r0)), (1, .ref (ad r1)), (2, vi x2), (3, vi x3), (4, vi (x4 + 1))]) [2, 3, 4, 5, 0] rfl ?_
        exact ih x3 (x4 + 1) h3 (rng_inc c7 h4 h2)
      · refine T_aload_n (pc := 18) C dX1_earliest_18 rfl 0 rfl ?_
        refine T_iload (pc := 19) C dX1_earliest_19 4 rfl ?_
        refine T_guard (fun g12 => ?_)
        refine Tc_iald (pc := 21) C r0 K0 (alen K0) x4.toNat k0 i0 rfl g12 rfl dX1_earliest_21 (fun z13 => ?_)
        refine T_ldc (pc := 22) C 1000000000 dX1_earliest_22 kc_95 (by decide) ?_
        refine T_icmp_ge (pc := 24) C 31 dX1_earliest_24 rfl z13 (rngL rfl) (fun c14 => ?_) (fun c14 => ?_)
        · refine T_iconst (pc := 31) C dX1_earliest_31 ?_
          refine T_istore (pc := 32) (L' := [(5, vi 0), (0, .ref (ad r0)), (1, .ref (ad r1)), (2, vi x2), (3, vi x3), (4, vi x4)]) C dX1_earliest_32 (Nat.le_of_ble_eq_true rfl) rfl ?_
          refine T_iload (pc := 34) C dX1_earliest_34 0 rfl ?_
          refine T_if_eq_t (pc := 36) C 57 dX1_earliest_36 rfl (rngL rfl) (by decide) ?_
          refine T_iinc (pc := 57) (L' := [(4, vi (x4 + 1)), (5, vi 0), (0, .ref (ad r0)), (1, .ref (ad r1)), (2, vi x2), (3, vi x3)]) C dX1_earliest_57 (Nat.le_of_ble_eq_true rfl) 5 rfl rfl ?_
          refine T_goto (pc := 60) C 5 dX1_earliest_60 rfl ?_
          refine T_sub (L' := [(0, .ref (ad r0)), (1, .ref (ad r1)), (2, vi x2), (3, vi x3), (4, vi (x4 + 1))]) [2, 3, 4, 5, 0] rfl ?_
          exact ih x3 (x4 + 1) h3 (rng_inc c7 h4 h2)
        · refine T_iconst (pc := 27) C dX1_earliest_27 ?_
          refine T_goto (pc := 28) C 32 dX1_earliest_28 rfl ?_
          refine T_istore (pc := 32) (L' := [(5, vi 1), (0, .ref (ad r0)), (1, .ref (ad r1)), (2, vi x2), (3, vi x3), (4, vi x4)]) C dX1_earliest_32 (Nat.le_of_ble_eq_true rfl) rfl ?_
          refine T_iload (pc := 34) C dX1_earliest_34 0 rfl ?_
          refine T_if_eq_f (pc := 36) C 57 dX1_earliest_36 rfl (rngL rfl) (by decide) ?_
          refine T_iload_n (pc := 39) C dX1_earliest_39 rfl 4 rfl ?_
          refine T_iconst (pc := 40) C dX1_earliest_40 ?_
          refine T_icmp_eq (pc := 41) C 54 dX1_earliest_41 rfl h3 (rngL rfl) (fun c17 => ?_) (fun c17 => ?_)
          · refine T_iload (pc := 54) C dX1_earliest_54 5 rfl ?_
            refine T_istore_n (pc := 56) (L' := [(3, vi x4), (5, vi 1), (0, .ref (ad r0)), (1, .ref (ad r1)), (2, vi x2), (4, vi x4)]) C dX1_earliest_56 rfl (Nat.le_of_ble_eq_true rfl) rfl ?_
            refine T_iinc (pc := 57) (L' := [(4, vi (x4 + 1)), (3, vi x4), (5, vi 1), (0, .ref (ad r0)), (1, .ref (ad r1)), (2, vi x2)]) C dX1_earliest_57 (Nat.le_of_ble_eq_true rfl) 5 rfl rfl ?_
            refine T_goto (pc := 60) C 5 dX1_earliest_60 rfl ?_
            refine T_sub (L' := [(0, .ref (ad r0)), (1, .ref (ad r1)), (2, vi x2), (3, vi x4), (4, vi (x4 + 1))]) [3, 4, 5, 1, 0] rfl ?_
            exact ih x4 (x4 + 1) h4 (rng_inc c7 h4 h2)
          · refine T_aload_n (pc := 44) C dX1_earliest_44 rfl 1 rfl ?_
            refine T_iload (pc := 45) C dX1_earliest_45 5 rfl ?_
            refine Tc_iald (pc := 47) C r0 K0 (alen K0) x4.toNat k0 i0 rfl g12 rfl dX1_earliest_47 (fun z18 => ?_)
            refine T_aload_n (pc := 48) C dX1_earliest_48 rfl 1 rfl ?_
            refine T_iload_n (pc := 49) C dX1_earliest_49 rfl 4 rfl ?_
            refine T_guard (fun g19 => ?_)
            refine Tc_iald (pc := 50) C r0 K0 (alen K0) x3.toNat k0 i0 rfl g19 rfl dX1_earliest_50 (fun z20 => ?_)
            refine T_icmp_ge (pc := 51) C 57 dX1_earliest_51 rfl z18 z20 (fun c21 => ?_) (fun c21 => ?_)
            · refine T_iinc (pc := 57) (L' := [(4, vi (x4 + 1)), (5, vi 1), (0, .ref (ad r0)), (1, .ref (ad r1)), (2, vi x2), (3, vi x3)]) C dX1_earliest_57 (Nat.le_of_ble_eq_true rfl) 5 rfl rfl ?_
              refine T_goto (pc := 60) C 5 dX1_earliest_60 rfl ?_
              refine T_sub (L' := [(0, .ref (ad r0)), (1, .ref (ad r1)), (2, vi x2), (3, vi x3), (4, vi (x4 + 1))]) [2, 3, 4, 5, 0] rfl ?_
              exact ih x3 (x4 + 1) h3 (rng_inc c7 h4 h2)
            · refine T_iload (pc := 54) C dX1_earliest_54 5 rfl ?_
              refine T_istore_n (pc := 56) (L' := [(3, vi x4), (5, vi 1), (0, .ref (ad r0)), (1, .ref (ad r1)), (2, vi x2), (4, vi x4)]) C dX1_earliest_56 rfl (Nat.le_of_ble_eq_true rfl) rfl ?_
              refine T_iinc (pc := 57) (L' := [(4, vi (x4 + 1)), (3, vi x4), (5, vi 1), (0, .ref (ad r0)), (1, .ref (ad r1)), (2, vi x2)]) C dX1_earliest_57 (Nat.le_of_ble_eq_true rfl) 5 rfl rfl ?_
              refine T_goto (pc := 60) C 5 dX1_earliest_60 rfl ?_
              refine T_sub (L' := [(0, .ref (ad r0)), (1, .ref (ad r1)), (2, vi x2), (3, vi x4), (4, vi (x4 + 1))]) [3, 4, 5, 1, 0] rfl ?_
              exact ih x4 (x4 + 1) h4 (rng_inc c7 h4 h2)
def f_X1_earliest (N : Nat) (σ : Sm) (r0 : Nat) (K0 : Nat) (r1 : Nat) (x2 : Int) : Option Int :=
  (f_X1_earliest_5 σ r0 K0 r1 x2 N (-1) 0).bind fun q22 => some q22
theorem ct_X1_earliest {l : Launch} {cy : Nat → ClassId} {ad : Nat → Nat} {E : Nat → Nat → Nat} {G : va_G} {Z : vZ} (zk : Zk Z E) (N : Nat) (σ : Sm) (r0 : Nat) (K0 : Nat) (r1 : Nat) (x2 : Int) (k0 : kd r0 = K0) (i0 : isIA K0) (k1 : kd r1 = 25) (h2 : rng x2) (hw : wfc σ) (o : Int) (h : f_X1_earliest N σ r0 K0 r1 x2 = some o) : CzI Z l yX1_earliest cX1_earliest 6 (some .int) rm_X1_earliest (wlc cy ad E) wfc G (tyc cy) [.ref (ad r0), .ref (ad r1), vi x2] σ σ o := by
  refine czI_of zk.1 (plainFor_of_name (by decide)) (Nat.le_of_ble_eq_true rfl) hw (σ, o) o h (fun X Y v => EndI X Y cX1_earliest rm_X1_earliest .int (σ, v)) (fun _ _ h => h) (fun X A Q hZ hX C => ?_)
  replace C : Cx X (Yc cy ad E G A 6 Q) cX1_earliest RX1 (some .int) rm_X1_earliest (tyc cy) := C
  replace hZ : Zx Z X (Yc cy ad E G A 6 Q) := hZ
  show T X (Yc cy ad E G A 6 Q) (fun v => EndI X (Yc cy ad E G A 6 Q) cX1_earliest rm_X1_earliest .int (σ, v)) 0 0 0 [(0, .ref (ad r0)), (1, .ref (ad r1)), (2, vi x2)] [] σ (f_X1_earliest N σ r0 K0 r1 x2)
  unfold f_X1_earliest
  refine T_iconst (pc := 0) C dX1_earliest_0 ?_
  refine T_istore_n (pc := 1) (L' := [(3, vi (-1)), (0, .ref (ad r0)), (1, .ref (ad r1)), (2, vi x2)]) C dX1_earliest_1 rfl (Nat.le_of_ble_eq_true rfl) rfl ?_
  refine T_iconst (pc := 2) C dX1_earliest_2 ?_
  refine T_istore (pc := 3) (L' := [(4, vi 0), (3, vi (-1)), (0, .ref (ad r0)), (1, .ref (ad r1)), (2, vi x2)]) C dX1_earliest_3 (Nat.le_of_ble_eq_true rfl) rfl ?_
  refine T_sub (L' := [(0, .ref (ad r0)), (1, .ref (ad r1)), (2, vi x2), (3, vi (-1)), (4, vi 0)]) [2, 3, 4, 1, 0] rfl ?_
  refine T_loopE (lp_X1_earliest_5 zk hZ C σ r0 K0 r1 k0 i0 k1 x2 h2 N (-1) 0 (rngL rfl) (rngL rfl)) (fun q22 hq22 => ?_)
  refine T_iload_n (pc := 63) C dX1_earliest_63 rfl 0 rfl ?_
  exact T_iret (pc := 64) q22 (fun h9 => h9) hq22 (nar_I _) (by decide) dX1_earliest_64

abbrev rm_J9_min_7cf53 : Room := ⟨0, 0, 0, 0⟩
theorem cm_J9_min_7cf53 : cmS yJ9_min_7cf53 cJ9_min_7cf53 2 (some .int) 2 := ⟨kc_92, kc_103, ⟨by decide +kernel, by decide +kernel, by decide +kernel⟩, kc_104⟩
def f_J9_min_7cf53 (x0 : Int) (x1 : Int) : Option Int :=
  (if x1 < x0 then some x1 else some x0)
theorem ct_J9_min_7cf53 {l : Launch} {cy : Nat → ClassId} {ad : Nat → Nat} {E : Nat → Nat → Nat} {G : va_G} {Z : vZ} (zk : Zk Z E) (σ : Sm) (x0 : Int) (x1 : Int) (h0 : rng x0) (h1 : rng x1) (hw : wfc σ) (o : Int) (h : f_J9_min_7cf53 x0 x1 = some o) : CzI Z l yJ9_min_7cf53 cJ9_min_7cf53 2 (some .int) rm_J9_min_7cf53 (wlc cy ad E) wfc G (tyc cy) [vi x0, vi x1] σ σ o := by
  refine czI_of zk.1 (by decide +kernel) (Nat.le_of_ble_eq_true rfl) hw (σ, o) o h (fun X Y v => EndI X Y cJ9_min_7cf53 rm_J9_min_7cf53 .int (σ, v)) (fun _ _ h => h) (fun X A Q hZ hX C => ?_)
  replace C : Cx X (Yc cy ad E G A 2 Q) cJ9_min_7cf53 RJ9 (some .int) rm_J9_min_7cf53 (tyc cy) := C
  replace hZ : Zx Z X (Yc cy ad E G A 2 Q) := hZ
  show T X (Yc cy ad E G A 2 Q) (fun v => EndI X (Yc cy ad E G A 2 Q) cJ9_min_7cf53 rm_J9_min_7cf53 .int (σ, v)) 0 0 0 [(0, vi x0), (1, vi x1)] [] σ (f_J9_min_7cf53 x0 x1)
  unfold f_J9_min_7cf53
  refine T_iload_n (pc := 0) C dJ9_min_7cf53_0 rfl 0 rfl ?_
  refine T_iload_n (pc := 1) C dJ9_min_7cf53_1 rfl 1 rfl ?_
  refine T_icmp_gt (pc := 2) C 9 dJ9_min_7cf53_2 rfl h0 h1 (fun c1 => ?_) (fun c1 => ?_)
  · refine T_iload_n (pc := 9) C dJ9_min_7cf53_9 rfl 1 rfl ?_
    exact T_iret (pc := 10) x1 (fun h9 => h9) h1 (nar_I _) (by decide) dJ9_min_7cf53_10
  · refine T_iload_n (pc := 5) C dJ9_min_7cf53_5 rfl 0 rfl ?_
    refine T_goto (pc := 6) C 10 dJ9_min_7cf53_6 rfl ?_
    exact T_iret (pc := 10) x0 (fun h9 => h9) h0 (nar_I _) (by decide) dJ9_min_7cf53_10

abbrev rm_X1_reach : Room := ⟨1, 0, 0, 21⟩
theorem cm_X1_reach : cmV yX1_reach cX1_reach 5 (some .boolean) 3 := ⟨kc_7, kc_99, ⟨by decide +kernel, by decide +kernel, by decide +kernel⟩, kc_106, kc_107⟩
def f_X1_reach (σ : Sm) (r0 : Nat) (x1 : Int) (x2 : Int) (x3 : Int) : Option (Sm × Int) :=
  if 0 ≤ x1 ∧ x1 < 10 then (if x2 < (σ (r0 + 1) x1.toNat) then (f_J9_min_7cf53 (σ (r0 + 1) x1.toNat) x2).bind fun v5 => bl (upm σ (r0 + 1) x1.toNat v5) fun s6 => (f_J9_min_7cf53 (s6 (r0 + 2) x1.toNat) x3).bind fun v8 => bl (upm s6 (r0 + 2) x1.toNat v8) fun s9 => some (s9, 1) else (if (σ (r0 + 2) x1.toNat) ≤ x3 then (f_J9_min_7cf53 (σ (r0 + 1) x1.toNat) x2).bind fun v13 => bl (upm σ (r0 + 1) x1.toNat v13) fun s14 => (f_J9_min_7cf53 (s14 (r0 + 2) x1.toNat) x3).bind fun v16 => bl (upm s14 (r0 + 2) x1.toNat v16) fun s17 => some (s17, 0) else (f_J9_min_7cf53 (σ (r0 + 1) x1.toNat) x2).bind fun v19 => bl (upm σ (r0 + 1) x1.toNat v19) fun s20 => (f_J9_min_7cf53 (s20 (r0 + 2) x1.toNat) x3).bind fun v22 => bl (upm s20 (r0 + 2) x1.toNat v22) fun s23 => some (s23, 1))) else none
theorem ct_X1_reach {l : Launch} {cy : Nat → ClassId} {ad : Nat → Nat} {E : Nat → Nat → Nat} {G : va_G} {Z : vZ} (zk : Zk Z E) (σ : Sm) (r0 : Nat) (x1 : Int) (x2 : Int) (x3 : Int) (k0 : kd r0 = 1) (h1 : rng x1) (h2 : rng x2) (h3 : rng x3) (hw : wfc σ) (o : Sm × Int) (h : f_X1_reach σ r0 x1 x2 x3 = some o) : CzI Z l yX1_reach cX1_reach 5 (some .boolean) rm_X1_reach (wlc cy ad E) wfc G (tyc cy) [.ref (ad r0), vi x1, vi x2, vi x3] σ o.1 o.2 := by
  refine czI_of zk.1 (plainFor_of_name (by decide)) (Nat.le_of_ble_eq_true rfl) hw o o h (fun X Y w => EndI X Y cX1_reach rm_X1_reach .boolean w) (fun _ _ h => h) (fun X A Q hZ hX C => ?_)
  replace C : Cx X (Yc cy ad E G A 5 Q) cX1_reach RX1 (some .boolean) rm_X1_reach (tyc cy) := C
  replace hZ : Zx Z X (Yc cy ad E G A 5 Q) := hZ
  show T X (Yc cy ad E G A 5 Q) (fun w => EndI X (Yc cy ad E G A 5 Q) cX1_reach rm_X1_reach .boolean w) 0 0 0 [(0, .ref (ad r0)), (1, vi x1), (2, vi x2), (3, vi x3)] [] σ (f_X1_reach σ r0 x1 x2 x3)
  unfold f_X1_reach
  refine T_iload_n (pc := 0) C dX1_reach_0 rfl 2 rfl ?_
  refine T_aload_n (pc := 1) C dX1_reach_1 rfl 0 rfl ?_
  refine Tc_getr (pc := 2) C r0 1 0 4 k0 (by decide) (fun _ => rfl) rfl inX1 (by decide) (v := .ref (ad (r0 + 1))) rfl kc_94 dX1_reach_2 ?_
  refine T_iload_n (pc := 5) C dX1_reach_5 rfl 1 rfl ?_
  refine T_guard (fun g1 => ?_)
  refine Tc_iald (pc := 6) C (r0 + 1) 20 10 x1.toNat (kd_1 k0).1 ⟨by decide, by decide⟩ rfl g1 rfl dX1_reach_6 (fun z2 => ?_)
  refine T_icmp_lt (pc := 7) C 20 dX1_reach_7 rfl h2 z2 (fun c3 => ?_) (fun c3 => ?_)
  · refine T_iconst (pc := 20) C dX1_reach_20 ?_
    refine T_goto (pc := 21) C 25 dX1_reach_21 rfl ?_
    refine T_istore (pc := 25) (L' := [(4, vi 1), (0, .ref (ad r0)), (1, vi x1), (2, vi x2), (3, vi x3)]) C dX1_reach_25 (Nat.le_of_ble_eq_true rfl) rfl ?_
    refine T_aload_n (pc := 27) C dX1_reach_27 rfl 1 rfl ?_
    refine Tc_getr (pc := 28) C r0 1 0 4 k0 (by decide) (fun _ => rfl) rfl inX1 (by decide) (v := .ref (ad (r0 + 1))) rfl kc_94 dX1_reach_28 ?_
    refine T_iload_n (pc := 31) C dX1_reach_31 rfl 2 rfl ?_
    refine T_aload_n (pc := 32) C dX1_reach_32 rfl 1 rfl ?_
    refine Tc_getr (pc := 33) C r0 1 0 4 k0 (by decide) (fun _ => rfl) rfl inX1 (by decide) (v := .ref (ad (r0 + 1))) rfl kc_94 dX1_reach_33 ?_
    refine T_iload_n (pc := 36) C dX1_reach_36 rfl 2 rfl ?_
    refine Tc_iald (pc := 37) C (r0 + 1) 20 10 x1.toNat (kd_1 k0).1 ⟨by decide, by decide⟩ rfl g1 rfl dX1_reach_37 (fun z4 => ?_)
    refine T_iload_n (pc := 38) C dX1_reach_38 rfl 3 rfl ?_
    refine T_czSip (pc := 39) zk.1 hZ C [vi (σ (r0 + 1) x1.toNat), vi x2] [vi x1, .ref (ad (r0 + 1))] (fun o h9 hw => ct_J9_min_7cf53 zk σ (σ (r0 + 1) x1.toNat) x2 z4 h2 hw o h9) kc_105 cm_J9_min_7cf53 rfl rfl (Nat.le_of_ble_eq_true rfl) (by decide) (a' := 0) (b' := 0) ⟨rfl, rfl⟩ dX1_reach_39 (fun v5 hv5 => ?_)
    refine Tc_iast (pc := 42) C (r0 + 1) 20 10 x1.toNat (kd_1 k0).1 ⟨by decide, by decide⟩ rfl g1 rfl hv5.1 dX1_reach_42 ?_
    refine T_blS (fun s6 => ?_)
    refine T_aload_n (pc := 43) C dX1_reach_43 rfl 1 rfl ?_
    refine Tc_getr (pc := 44) C r0 1 1 4 k0 (by decide) (fun _ => rfl) rfl inX1 (by decide) (v := .ref (ad (r0 + 2))) rfl kc_96 dX1_reach_44 ?_
    refine T_iload_n (pc := 47) C dX1_reach_47 rfl 2 rfl ?_
    refine T_aload_n (pc := 48) C dX1_reach_48 rfl 1 rfl ?_
    refine Tc_getr (pc := 49) C r0 1 1 4 k0 (by decide) (fun _ => rfl) rfl inX1 (by decide) (v := .ref (ad (r0 + 2))) rfl kc_96 dX1_reach_49 ?_
    refine T_iload_n (pc := 52) C dX1_reach_52 rfl 2 rfl ?_
    refine Tc_iald (pc := 53) C (r0 + 2) 20 10 x1.toNat (kd_1 k0).2.1 ⟨by decide, by decide⟩ rfl g1 rfl dX1_reach_53 (fun z7 => ?_)
    refine T_iload_n (pc := 54) C dX1_reach_54 rfl 4 rfl ?_
    refine T_czSip (pc := 55) zk.1 hZ C [vi (s6 (r0 + 2) x1.toNat), vi x3] [vi x1, .ref (ad (r0 + 2))] (fun o h9 hw => ct_J9_min_7cf53 zk s6 (s6 (r0 + 2) x1.toNat) x3 z7 h3 hw o h9) kc_105 cm_J9_min_7cf53 rfl rfl (Nat.le_of_ble_eq_true rfl) (by decide) (a' := 0) (b' := 0) ⟨rfl, rfl⟩ dX1_reach_55 (fun v8 hv8 => ?_)
    refine Tc_iast (pc := 58) C (r0 + 2) 20 10 x1.toNat (kd_1 k0).2.1 ⟨by decide, by decide⟩ rfl g1 rfl hv8.1 dX1_reach_58 ?_
    refine T_blS (fun s9 => ?_)
    refine T_iload (pc := 59) C dX1_reach_59 0 rfl ?_
    exact T_iret (pc := 61) (s9, 1) (fun h9 => h9) (rngL rfl) (nar_Z (Or.inr rfl)) (by decide) dX1_reach_61
  · refine T_iload_n (pc := 10) C dX1_reach_10 rfl 3 rfl ?_
    refine T_aload_n (pc := 11) C dX1_reach_11 rfl 0 rfl ?_
    refine Tc_getr (pc := 12) C r0 1 1 4 k0 (by decide) (fun _ => rfl) rfl inX1 (by decide) (v := .ref (ad (r0 + 2))) rfl kc_96 dX1_reach_12 ?_
    refine T_iload_n (pc := 15) C dX1_reach_15 rfl 1 rfl ?_
    refine Tc_iald (pc := 16) C (r0 + 2) 20 10 x1.toNat (kd_1 k0).2.1 ⟨by decide, by decide⟩ rfl g1 rfl dX1_reach_16 (fun z10 => ?_)
    refine T_icmp_ge (pc := 17) C 24 dX1_reach_17 rfl h3 z10 (fun c11 => ?_) (fun c11 => ?_)
    · refine T_iconst (pc := 24) C dX1_reach_24 ?_
      refine T_istore (pc := 25) (L' := [(4, vi 0), (0, .ref (ad r0)), (1, vi x1), (2, vi x2), (3, vi x3)]) C dX1_reach_25 (Nat.le_of_ble_eq_true rfl) rfl ?_
      refine T_aload_n (pc := 27) C dX1_reach_27 rfl 1 rfl ?_
      refine Tc_getr (pc := 28) C r0 1 0 4 k0 (by decide) (fun _ => rfl) rfl inX1 (by decide) (v := .ref (ad (r0 + 1))) rfl kc_94 dX1_reach_28 ?_
      refine T_iload_n (pc := 31) C dX1_reach_31 rfl 2 rfl ?_
      refine T_aload_n (pc := 32) C dX1_reach_32 rfl 1 rfl ?_
      refine Tc_getr (pc := 33) C r0 1 0 4 k0 (by decide) (fun _ => rfl) rfl inX1 (by decide) (v := .ref (ad (r0 + 1))) rfl kc_94 dX1_reach_33 ?_
      refine T_iload_n (pc := 36) C dX1_reach_36 rfl 2 rfl ?_
      refine Tc_iald (pc := 37) C (r0 + 1) 20 10 x1.toNat (kd_1 k0).1 ⟨by decide, by decide⟩ rfl g1 rfl dX1_reach_37 (fun z12 => ?_)
      refine T_iload_n (pc := 38) C dX1_reach_38 rfl 3 rfl ?_
      refine T_czSip (pc := 39) zk.1 hZ C [vi (σ (r0 + 1) x1.toNat), vi x2] [vi x1, .ref (ad (r0 + 1))] (fun o h9 hw => ct_J9_min_7cf53 zk σ (σ (r0 + 1) x1.toNat) x2 z12 h2 hw o h9) kc_105 cm_J9_min_7cf53 rfl rfl (Nat.le_of_ble_eq_true rfl) (by decide) (a' := 0) (b' := 0) ⟨rfl, rfl⟩ dX1_reach_39 (fun v13 hv13 => ?_)
      refine Tc_iast (pc := 42) C (r0 + 1) 20 10 x1.toNat (kd_1 k0).1 ⟨by decide, by decide⟩ rfl g1 rfl hv13.1 dX1_reach_42 ?_
      refine T_blS (fun s14 => ?_)
      refine T_aload_n (pc := 43) C dX1_reach_43 rfl 1 rfl ?_
      refine Tc_getr (pc := 44) C r0 1 1 4 k0 (by decide) (fun _ => rfl) rfl inX1 (by decide) (v := .ref (ad (r0 + 2))) rfl kc_96 dX1_reach_44 ?_
      refine T_iload_n (pc := 47) C dX1_reach_47 rfl 2 rfl ?_
      refine T_aload_n (pc := 48) C dX1_reach_48 rfl 1 rfl ?_
      refine Tc_getr (pc := 49) C r0 1 1 4 k0 (by decide) (fun _ => rfl) rfl inX1 (by decide) (v := .ref (ad (r0 + 2))) rfl kc_96 dX1_reach_49 ?_
      refine T_iload_n (pc := 52) C dX1_reach_52 rfl 2 rfl ?_
      refine Tc_iald (pc := 53) C (r0 + 2) 20 10 x1.toNat (kd_1 k0).2.1 ⟨by decide, by decide⟩ rfl g1 rfl dX1_reach_53 (fun z15 => ?_)
      refine T_iload_n (pc := 54) C dX1_reach_54 rfl 4 rfl ?_
      refine T_czSip (pc := 55) zk.1 hZ C [vi (s14 (r0 + 2) x1.toNat), vi x3] [vi x1, .ref (ad (r0 + 2))] (fun o h9 hw => ct_J9_min_7cf53 zk s14 (s14 (r0 + 2) x1.toNat) x3 z15 h3 hw o h9) kc_105 cm_J9_min_7cf53 rfl rfl (Nat.le_of_ble_eq_true rfl) (by decide) (a' := 0) (b' := 0) ⟨rfl, rfl⟩ dX1_reach_55 (fun v16 hv16 => ?_)
      refine Tc_iast (pc := 58) C (r0 + 2) 20 10 x1.toNat (kd_1 k0).2.1 ⟨by decide, by decide⟩ rfl g1 rfl hv16.1 dX1_reach_58 ?_
      refine T_blS (fun s17 => ?_)
      refine T_iload (pc := 59) C dX1_reach_59 0 rfl ?_
      exact T_iret (pc := 61) (s17, 0) (fun h9 => h9) (rngL rfl) (nar_Z (Or.inl rfl)) (by decide) dX1_reach_61
    · refine T_iconst (pc := 20) C dX1_reach_20 ?_
      refine T_goto (pc := 21) C 25 dX1_reach_21 rfl ?_
      refine T_istore (pc := 25) (L' := [(4, vi 1), (0, .ref (ad r0)), (1, vi x1), (2, vi x2), (3, vi x3)]) C dX1_reach_25 (Nat.le_of_ble_eq_true rfl) rfl ?_
      refine T_aload_n (pc := 27) C dX1_reach_27 rfl 1 rfl ?_
      refine Tc_getr (pc := 28) C r0 1 0 4 k0 (by decide) (fun _ => rfl) rfl inX1 (by decide) (v := .ref (ad (r0 + 1))) rfl kc_94 dX1_reach_28 ?_
      refine T_iload_n (pc := 31) C dX1_reach_31 rfl 2 rfl ?_
      refine T_aload_n (pc := 32) C dX1_reach_32 rfl 1 rfl ?_
      refine Tc_getr (pc := 33) C r0 1 0 4 k0 (by decide) (fun _ => rfl) rfl inX1 (by decide) (v := .ref (ad (r0 + 1))) rfl kc_94 dX1_reach_33 ?_
      refine T_iload_n (pc := 36) C dX1_reach_36 rfl 2 rfl ?_
      refine Tc_iald (pc := 37) C (r0 + 1) 20 10 x1.toNat (kd_1 k0).1 ⟨by decide, by decide⟩ rfl g1 rfl dX1_reach_37 (fun z18 => ?_)
      refine T_iload_n (pc := 38) C dX1_reach_38 rfl 3 rfl ?_
      refine T_czSip (pc := 39) zk.1 hZ C [vi (σ (r0 + 1) x1.toNat), vi x2] [vi x1, .ref (ad (r0 + 1))] (fun o h9 hw => ct_J9_min_7cf53 zk σ (σ (r0 + 1) x1.toNat) x2 z18 h2 hw o h9) kc_105 cm_J9_min_7cf53 rfl rfl (Nat.le_of_ble_eq_true rfl) (by decide) (a' := 0) (b' := 0) ⟨rfl, rfl⟩ dX1_reach_39 (fun v19 hv19 => ?_)
      refine Tc_iast (pc := 42) C (r0 + 1) 20 10 x1.toNat (kd_1 k0).1 ⟨by decide, by decide⟩ rfl g1 rfl hv19.1 dX1_reach_42 ?_
      refine T_blS (fun s20 => ?_)
      refine T_aload_n (pc := 43) C dX1_reach_43 rfl 1 rfl ?_
      refine Tc_getr (pc := 44) C r0 1 1 4 k0 (by decide) (fun _ => rfl) rfl inX1 (by decide) (v := .ref (ad (r0 + 2))) rfl kc_96 dX1_reach_44 ?_
      refine T_iload_n (pc := 47) C dX1_reach_47 rfl 2 rfl ?_
      refine T_aload_n (pc := 48) C dX1_reach_48 rfl 1 rfl ?_
      refine Tc_getr (pc := 49) C r0 1 1 4 k0 (by decide) (fun _ => rfl) rfl inX1 (by decide) (v := .ref (ad (r0 + 2))) rfl kc_96 dX1_reach_49 ?_
      refine T_iload_n (pc := 52) C dX1_reach_52 rfl 2 rfl ?_
      refine Tc_iald (pc := 53) C (r0 + 2) 20 10 x1.toNat (kd_1 k0).2.1 ⟨by decide, by decide⟩ rfl g1 rfl dX1_reach_53 (fun z21 => ?_)
      refine T_iload_n (pc := 54) C dX1_reach_54 rfl 4 rfl ?_
      refine T_czSip (pc := 55) zk.1 hZ C [vi (s20 (r0 + 2) x1.toNat), vi x3] [vi x1, .ref (ad (r0 + 2))] (fun o h9 hw => ct_J9_min_7cf53 zk s20 (s20 (r0 + 2) x1.toNat) x3 z21 h3 hw o h9) kc_105 cm_J9_min_7cf53 rfl rfl (Nat.le_of_ble_eq_true rfl) (by decide) (a' := 0) (b' := 0) ⟨rfl, rfl⟩ dX1_reach_55 (fun v22 hv22 => ?_)
      refine Tc_iast (pc := 58) C (r0 + 2) 20 10 x1.toNat (kd_1 k0).2.1 ⟨by decide, by decide⟩ rfl g1 rfl hv22.1 dX1_reach_58 ?_
      refine T_blS (fun s23 => ?_)
      refine T_iload (pc := 59) C dX1_reach_59 0 rfl ?_
      exact T_iret (pc := 61) (s23, 1) (fun h9 => h9) (rngL rfl) (nar_Z (Or.inr rfl)) (by decide) dX1_reach_61

abbrev rm_X7_pace : Room := ⟨0, 0, 0, 0⟩
theorem cm_X7_pace : cmV yX7_pace cX7_pace 2 (some .int) 1 := ⟨kc_32, kc_110, ⟨by decide +kernel, by decide +kernel, by decide +kernel⟩, kc_111, kc_112⟩
def f_X7_pace (σ : Sm) (r0 : Nat) (x1 : Int) : Option Int :=
  (if x1 = 0 then some (σ r0 2) else if rng ((σ r0 2) + (σ r0 3)) then some ((σ r0 2) + (σ r0 3)) else none)
theorem ct_X7_pace {l : Launch} {cy : Nat → ClassId} {ad : Nat → Nat} {E : Nat → Nat → Nat} {G : va_G} {Z : vZ} (zk : Zk Z E) (σ : Sm) (r0 : Nat) (x1 : Int) (k0 : kd r0 = 7) (h1 : bit x1) (hw : wfc σ) (o : Int) (h : f_X7_pace σ r0 x1 = some o) : CzI Z l yX7_pace cX7_pace 2 (some .int) rm_X7_pace (wlc cy ad E) wfc G (tyc cy) [.ref (ad r0), vi x1] σ σ o := by
  refine czI_of zk.1 (plainFor_of_name (by decide)) (Nat.le_of_ble_eq_true rfl) hw (σ, o) o h (fun X Y v => EndI X Y cX7_pace rm_X7_pace .int (σ, v)) (fun _ _ h => h) (fun X A Q hZ hX C => ?_)
  replace C : Cx X (Yc cy ad E G A 2 Q) cX7_pace RX7 (some .int) rm_X7_pace (tyc cy) := C
  replace hZ : Zx Z X (Yc cy ad E G A 2 Q) := hZ
  show T X (Yc cy ad E G A 2 Q) (fun v => EndI X (Yc cy ad E G A 2 Q) cX7_pace rm_X7_pace .int (σ, v)) 0 0 0 [(0, .ref (ad r0)), (1, vi x1)] [] σ (f_X7_pace σ r0 x1)
  unfold f_X7_pace
  refine T_iload_n (pc := 0) C dX7_pace_0 rfl 1 rfl ?_
  refine T_if_eq (pc := 1) C 16 dX7_pace_1 rfl (bit_rng h1) (fun c1 => ?_) (fun c1 => ?_)
  · refine T_aload_n (pc := 16) C dX7_pace_16 rfl 0 rfl ?_
    refine Tc_geti (pc := 17) C r0 7 2 8 k0 (by decide) (fun _ => rfl) rfl inX7 (by decide) rfl kc_108 dX7_pace_17 (fun z2 => ?_)
    exact T_iret (pc := 20) (σ r0 2) (fun h9 => h9) z2.1 (nar_I _) (by decide) dX7_pace_20
  · refine T_aload_n (pc := 4) C dX7_pace_4 rfl 0 rfl ?_
    refine Tc_geti (pc := 5) C r0 7 2 8 k0 (by decide) (fun _ => rfl) rfl inX7 (by decide) rfl kc_108 dX7_pace_5 (fun z3 => ?_)
    refine T_aload_n (pc := 8) C dX7_pace_8 rfl 0 rfl ?_
    refine Tc_geti (pc := 9) C r0 7 3 8 k0 (by decide) (fun _ => rfl) rfl inX7 (by decide) rfl kc_109 dX7_pace_9 (fun z4 => ?_)
    refine T_iadd (pc := 12) C dX7_pace_12 ?_
    refine T_goto (pc := 13) C 20 dX7_pace_13 rfl ?_
    refine T_guard (fun g5 => ?_)
    exact T_iret (pc := 20) ((σ r0 2) + (σ r0 3)) (fun h9 => h9) g5 (nar_I _) (by decide) dX7_pace_20

abbrev rm_X7_firstTrip : Room := ⟨1, 0, 0, 21⟩
theorem cm_X7_firstTrip : cmV yX7_firstTrip cX7_firstTrip 5 (some .int) 3 := ⟨kc_34, kc_110, ⟨by decide +kernel, by decide +kernel, by decide +kernel⟩, kc_116, kc_117⟩
def f_X7_firstTrip (σ : Sm) (r0 : Nat) (x1 : Int) (x2 : Int) (x3 : Int) : Option Int :=
  (f_X7_pace σ r0 x3).bind fun v2 => bl ((x2 - (σ r0 1)) - (x1 * v2)) fun v3 => if rng v3 then (if v3 ≤ 0 then some 0 else (if 1 ≤ (σ r0 0) then if rng ((v3 + (σ r0 0)) - 1) then if 0 ≤ ((v3 + (σ r0 0)) - 1) ∧ 0 < (σ r0 0) then some (((v3 + (σ r0 0)) - 1) / (σ r0 0)) else none else none else some 0)) else none
theorem ct_X7_firstTrip {l : Launch} {cy : Nat → ClassId} {ad : Nat → Nat} {E : Nat → Nat → Nat} {G : va_G} {Z : vZ} (zk : Zk Z E) (σ : Sm) (r0 : Nat) (x1 : Int) (x2 : Int) (x3 : Int) (k0 : kd r0 = 7) (h1 : rng x1) (h2 : rng x2) (h3 : bit x3) (hw : wfc σ) (o : Int) (h : f_X7_firstTrip σ r0 x1 x2 x3 = some o) : CzI Z l yX7_firstTrip cX7_firstTrip 5 (some .int) rm_X7_firstTrip (wlc cy ad E) wfc G (tyc cy) [.ref (ad r0), vi x1, vi x2, vi x3] σ σ o := by
  refine czI_of zk.1 (plainFor_of_name (by decide)) (Nat.le_of_ble_eq_true rfl) hw (σ, o) o h (fun X Y v => EndI X Y cX7_firstTrip rm_X7_firstTrip .int (σ, v)) (fun _ _ h => h) (fun X A Q hZ hX C => ?_)
  replace C : Cx X (Yc cy ad E G A 5 Q) cX7_firstTrip RX7 (some .int) rm_X7_firstTrip (tyc cy) := C
  replace hZ : Zx Z X (Yc cy ad E G A 5 Q) := hZ
  show T X (Yc cy ad E G A 5 Q) (fun v => EndI X (Yc cy ad E G A 5 Q) cX7_firstTrip rm_X7_firstTrip .int (σ, v)) 0 0 0 [(0, .ref (ad r0)), (1, vi x1), (2, vi x2), (3, vi x3)] [] σ (f_X7_firstTrip σ r0 x1 x2 x3)
  unfold f_X7_firstTrip
  refine T_iload_n (pc := 0) C dX7_firstTrip_0 rfl 2 rfl ?_
  refine T_aload_n (pc := 1) C dX7_firstTrip_1 rfl 0 rfl ?_
  refine Tc_geti (pc := 2) C r0 7 1 8 k0 (by decide) (fun _ => rfl) rfl inX7 (by decide) rfl kc_113 dX7_firstTrip_2 (fun z1 => ?_)
  refine T_isub (pc := 5) C dX7_firstTrip_5 ?_
  refine T_iload_n (pc := 6) C dX7_firstTrip_6 rfl 1 rfl ?_
  refine T_aload_n (pc := 7) C dX7_firstTrip_7 rfl 0 rfl ?_
  refine T_iload_n (pc := 8) C dX7_firstTrip_8 rfl 3 rfl ?_
  refine T_czVip (pc := 9) zk.1 hZ C [vi x3] [vi x1, vi (x2 - (σ r0 1))] (fun o h9 hw => ct_X7_pace zk σ r0 x3 k0 h3 hw o h9) kc_114 cm_X7_pace (rcc k0 (by decide) (fun _ => rfl) rfl) rfl rfl (Nat.le_of_ble_eq_true rfl) (by decide) (a' := 0) (b' := 0) ⟨rfl, rfl⟩ dX7_firstTrip_9 (fun v2 hv2 => ?_)
  refine T_imul (pc := 12) C dX7_firstTrip_12 ?_
  refine T_isub (pc := 13) C dX7_firstTrip_13 ?_
  refine T_blN (fun v3 => ?_)
  refine T_istore (pc := 14) (L' := [(4, vi v3), (0, .ref (ad r0)), (1, vi x1), (2, vi x2), (3, vi x3)]) C dX7_firstTrip_14 (Nat.le_of_ble_eq_true rfl) rfl ?_
  refine T_iload (pc := 16) C dX7_firstTrip_16 0 rfl ?_
  refine T_guard (fun g4 => ?_)
  refine T_if_le (pc := 18) C 29 dX7_firstTrip_18 rfl g4 (fun c5 => ?_) (fun c5 => ?_)
  · refine T_iconst (pc := 29) C dX7_firstTrip_29 ?_
    exact T_iret (pc := 30) 0 (fun h9 => h9) (rngL rfl) (nar_I _) (by decide) dX7_firstTrip_30
  · refine T_aload_n (pc := 21) C dX7_firstTrip_21 rfl 1 rfl ?_
    refine Tc_geti (pc := 22) C r0 7 0 8 k0 (by decide) (fun _ => rfl) rfl inX7 (by decide) rfl kc_115 dX7_firstTrip_22 (fun z6 => ?_)
    refine T_iconst (pc := 25) C dX7_firstTrip_25 ?_
    refine T_icmp_ge (pc := 26) C 31 dX7_firstTrip_26 rfl z6.1 (rngL rfl) (fun c7 => ?_) (fun c7 => ?_)
    · refine T_iload (pc := 31) C dX7_firstTrip_31 0 rfl ?_
      refine T_aload_n (pc := 33) C dX7_firstTrip_33 rfl 1 rfl ?_
      refine Tc_geti (pc := 34) C r0 7 0 8 k0 (by decide) (fun _ => rfl) rfl inX7 (by decide) rfl kc_115 dX7_firstTrip_34 (fun z8 => ?_)
      refine T_iadd (pc := 37) C dX7_firstTrip_37 ?_
      refine T_iconst (pc := 38) C dX7_firstTrip_38 ?_
      refine T_isub (pc := 39) C dX7_firstTrip_39 ?_
      refine T_aload_n (pc := 40) C dX7_firstTrip_40 rfl 1 rfl ?_
      refine Tc_geti (pc := 41) C r0 7 0 8 k0 (by decide) (fun _ => rfl) rfl inX7 (by decide) rfl kc_115 dX7_firstTrip_41 (fun z9 => ?_)
      refine T_guard (fun g10 => ?_)
      refine T_guard (fun g11 => ?_)
      refine T_idiv (pc := 44) C dX7_firstTrip_44 g10 z9.1 g11 ?_
      exact T_iret (pc := 45) (((v3 + (σ r0 0)) - 1) / (σ r0 0)) (fun h9 => h9) (rng_dv g10 g11) (nar_I _) (by decide) dX7_firstTrip_45
    · refine T_iconst (pc := 29) C dX7_firstTrip_29 ?_
      exact T_iret (pc := 30) 0 (fun h9 => h9) (rngL rfl) (nar_I _) (by decide) dX7_firstTrip_30

abbrev rm_X7_stopOn : Room := ⟨0, 0, 0, 0⟩
theorem cm_X7_stopOn : cmV yX7_stopOn cX7_stopOn 2 (some .int) 1 := ⟨kc_30, kc_110, ⟨by decide +kernel, by decide +kernel, by decide +kernel⟩, kc_120, kc_121⟩
def f_X7_stopOn (σ : Sm) (r0 : Nat) (x1 : Int) : Option Int :=
  (if (σ r0 6) ≤ x1 then some (σ (r0 + 1) 0) else if 0 ≤ x1 ∧ x1 < 6 then some (σ (r0 + 1) x1.toNat) else none)
theorem ct_X7_stopOn {l : Launch} {cy : Nat → ClassId} {ad : Nat → Nat} {E : Nat → Nat → Nat} {G : va_G} {Z : vZ} (zk : Zk Z E) (σ : Sm) (r0 : Nat) (x1 : Int) (k0 : kd r0 = 7) (h1 : rng x1) (hw : wfc σ) (o : Int) (h : f_X7_stopOn σ r0 x1 = some o) : CzI Z l yX7_stopOn cX7_stopOn 2 (some .int) rm_X7_stopOn (wlc cy ad E) wfc G (tyc cy) [.ref (ad r0), vi x1] σ σ o := by
  refine czI_of zk.1 (plainFor_of_name (by decide)) (Nat.le_of_ble_eq_true rfl) hw (σ, o) o h (fun X Y v => EndI X Y cX7_stopOn rm_X7_stopOn .int (σ, v)) (fun _ _ h => h) (fun X A Q hZ hX C => ?_)
  replace C : Cx X (Yc cy ad E G A 2 Q) cX7_stopOn RX7 (some .int) rm_X7_stopOn (tyc cy) := C
  replace hZ : Zx Z X (Yc cy ad E G A 2 Q) := hZ
  show T X (Yc cy ad E G A 2 Q) (fun v => EndI X (Yc cy ad E G A 2 Q) cX7_stopOn rm_X7_stopOn .int (σ, v)) 0 0 0 [(0, .ref (ad r0)), (1, vi x1)] [] σ (f_X7_stopOn σ r0 x1)
  unfold f_X7_stopOn
  refine T_iload_n (pc := 0) C dX7_stopOn_0 rfl 1 rfl ?_
  refine T_aload_n (pc := 1) C dX7_stopOn_1 rfl 0 rfl ?_
  refine Tc_geti (pc := 2) C r0 7 6 8 k0 (by decide) (fun _ => rfl) rfl inX7 (by decide) rfl kc_118 dX7_stopOn_2 (fun z1 => ?_)
  refine T_icmp_ge (pc := 5) C 17 dX7_stopOn_5 rfl h1 z1.1 (fun c2 => ?_) (fun c2 => ?_)
  · refine T_aload_n (pc := 17) C dX7_stopOn_17 rfl 0 rfl ?_
    refine Tc_getr (pc := 18) C r0 7 7 8 k0 (by decide) (fun _ => rfl) rfl inX7 (by decide) (v := .ref (ad (r0 + 1))) rfl kc_119 dX7_stopOn_18 ?_
    refine T_iconst (pc := 21) C dX7_stopOn_21 ?_
    refine Tc_iald (pc := 22) C (r0 + 1) 22 6 0 (kd_7 k0) ⟨by decide, by decide⟩ rfl ⟨by decide, by decide⟩ rfl dX7_stopOn_22 (fun z3 => ?_)
    exact T_iret (pc := 23) (σ (r0 + 1) 0) (fun h9 => h9) z3 (nar_I _) (by decide) dX7_stopOn_23
  · refine T_aload_n (pc := 8) C dX7_stopOn_8 rfl 0 rfl ?_
    refine Tc_getr (pc := 9) C r0 7 7 8 k0 (by decide) (fun _ => rfl) rfl inX7 (by decide) (v := .ref (ad (r0 + 1))) rfl kc_119 dX7_stopOn_9 ?_
    refine T_iload_n (pc := 12) C dX7_stopOn_12 rfl 1 rfl ?_
    refine T_guard (fun g4 => ?_)
    refine Tc_iald (pc := 13) C (r0 + 1) 22 6 x1.toNat (kd_7 k0) ⟨by decide, by decide⟩ rfl g4 rfl dX7_stopOn_13 (fun z5 => ?_)
    refine T_goto (pc := 14) C 23 dX7_stopOn_14 rfl ?_
    exact T_iret (pc := 23) (σ (r0 + 1) x1.toNat) (fun h9 => h9) z5 (nar_I _) (by decide) dX7_stopOn_23

abbrev rm_X7_whenAt : Room := ⟨1, 0, 0, 21⟩
theorem cm_X7_whenAt : cmV yX7_whenAt cX7_whenAt 4 (some .int) 3 := ⟨kc_33, kc_110, ⟨by decide +kernel, by decide +kernel, by decide +kernel⟩, kc_122, kc_123⟩
def f_X7_whenAt (σ : Sm) (r0 : Nat) (x1 : Int) (x2 : Int) (x3 : Int) : Option Int :=
  (f_X7_pace σ r0 x3).bind fun v3 => if rng (((σ r0 1) + (x1 * (σ r0 0))) + (x2 * v3)) then some (((σ r0 1) + (x1 * (σ r0 0))) + (x2 * v3)) else none
theorem ct_X7_whenAt {l : Launch} {cy : Nat → ClassId} {ad : Nat → Nat} {E : Nat → Nat → Nat} {G : va_G} {Z : vZ} (zk : Zk Z E) (σ : Sm) (r0 : Nat) (x1 : Int) (x2 : Int) (x3 : Int) (k0 : kd r0 = 7) (h1 : rng x1) (h2 : rng x2) (h3 : bit x3) (hw : wfc σ) (o : Int) (h : f_X7_whenAt σ r0 x1 x2 x3 = some o) : CzI Z l yX7_whenAt cX7_whenAt 4 (some .int) rm_X7_whenAt (wlc cy ad E) wfc G (tyc cy) [.ref (ad r0), vi x1, vi x2, vi x3] σ σ o := by
  refine czI_of zk.1 (plainFor_of_name (by decide)) (Nat.le_of_ble_eq_true rfl) hw (σ, o) o h (fun X Y v => EndI X Y cX7_whenAt rm_X7_whenAt .int (σ, v)) (fun _ _ h => h) (fun X A Q hZ hX C => ?_)
  replace C : Cx X (Yc cy ad E G A 4 Q) cX7_whenAt RX7 (some .int) rm_X7_whenAt (tyc cy) := C
  replace hZ : Zx Z X (Yc cy ad E G A 4 Q) := hZ
  show T X (Yc cy ad E G A 4 Q) (fun v => EndI X (Yc cy ad E G A 4 Q) cX7_whenAt rm_X7_whenAt .int (σ, v)) 0 0 0 [(0, .ref (ad r0)), (1, vi x1), (2, vi x2), (3, vi x3)] [] σ (f_X7_whenAt σ r0 x1 x2 x3)
  unfold f_X7_whenAt
  refine T_aload_n (pc := 0) C dX7_whenAt_0 rfl 0 rfl ?_
  refine Tc_geti (pc := 1) C r0 7 1 8 k0 (by decide) (fun _ => rfl) rfl inX7 (by decide) rfl kc_113 dX7_whenAt_1 (fun z1 => ?_)
  refine T_iload_n (pc := 4) C dX7_whenAt_4 rfl 1 rfl ?_
  refine T_aload_n (pc := 5) C dX7_whenAt_5 rfl 0 rfl ?_
  refine Tc_geti (pc := 6) C r0 7 0 8 k0 (by decide) (fun _ => rfl) rfl inX7 (by decide) rfl kc_115 dX7_whenAt_6 (fun z2 => ?_)
  refine T_imul (pc := 9) C dX7_whenAt_9 ?_
  refine T_iadd (pc := 10) C dX7_whenAt_10 ?_
  refine T_iload_n (pc := 11) C dX7_whenAt_11 rfl 2 rfl ?_
  refine T_aload_n (pc := 12) C dX7_whenAt_12 rfl 0 rfl ?_
  refine T_iload_n (pc := 13) C dX7_whenAt_13 rfl 3 rfl ?_
  refine T_czVip (pc := 14) zk.1 hZ C [vi x3] [vi x2, vi ((σ r0 1) + (x1 * (σ r0 0)))] (fun o h9 hw => ct_X7_pace zk σ r0 x3 k0 h3 hw o h9) kc_114 cm_X7_pace (rcc k0 (by decide) (fun _ => rfl) rfl) rfl rfl (Nat.le_of_ble_eq_true rfl) (by decide) (a' := 0) (b' := 0) ⟨rfl, rfl⟩ dX7_whenAt_14 (fun v3 hv3 => ?_)
  refine T_imul (pc := 17) C dX7_whenAt_17 ?_
  refine T_iadd (pc := 18) C dX7_whenAt_18 ?_
  refine T_guard (fun g4 => ?_)
  exact T_iret (pc := 19) (((σ r0 1) + (x1 * (σ r0 0))) + (x2 * v3)) (fun h9 => h9) g4 (nar_I _) (by decide) dX7_whenAt_19

abbrev rm_X1_rideLine : Room := ⟨2, 0, 0, 45⟩
theorem cm_X1_rideLine : cmV yX1_rideLine cX1_rideLine 10 (some .boolean) 4 := ⟨kc_6, kc_99, ⟨by decide +kernel, by decide +kernel, by decide +kernel⟩, kc_132, kc_133⟩
def f_X1_rideLine_21 (r0 : Nat) (r1 : Nat) (r2 : Nat) (x6 : Int) : Nat → Sm → Int → Int → Option (Sm × Int)
  | 0, _, _, _ => none
  | n + 1, s0, x5, x7 => (if (s0 r2 6) < x7 then some (s0, x5) else (f_X7_stopOn s0 r2 x7).bind fun v6 => if 0 ≤ v6 ∧ v6 < 10 then (if (s0 (r1 + 2) v6.toNat) = 0 then (f_X7_whenAt s0 r2 x6 x7 (s0 r1 1)).bind fun v12 => if rng (v12 + (s0 (r1 + 1) v6.toNat)) then (f_X1_reach s0 r0 v6 v12 (v12 + (s0 (r1 + 1) v6.toNat))).bind fun v15 => (if v15.2 = 0 then (if x5 = 0 then if rng (x7 + 1) then f_X1_rideLine_21 r0 r1 r2 x6 n v15.1 0 (x7 + 1) else none else if rng (x7 + 1) then f_X1_rideLine_21 r0 r1 r2 x6 n v15.1 1 (x7 + 1) else none) else if rng (x7 + 1) then f_X1_rideLine_21 r0 r1 r2 x6 n v15.1 1 (x7 + 1) else none) else none else if rng (x7 + 1) then f_X1_rideLine_21 r0 r1 r2 x6 n s0 x5 (x7 + 1) else none) else none)
theorem lp_X1_rideLine_21 {X : vjX} {A : Nat → Prop} {Q : State → Prop} {cy : Nat → ClassId} {ad : Nat → Nat} {E : Nat → Nat → Nat} {G : va_G} {Z : vZ} (zk : Zk Z E) (hZ : Zx Z X (Yc cy ad E G A 10 Q)) (C : Cx X (Yc cy ad E G A 10 Q) cX1_rideLine RX1 (some .boolean) rm_X1_rideLine (tyc cy)) (r0 : Nat) (r1 : Nat) (r2 : Nat) (k0 : kd r0 = 1) (k1 : kd r1 = 8) (k2 : kd r2 = 7) (x6 : Int) (h6 : rng x6) : ∀ (n : Nat) (s0 : Sm) (x5 : Int) (x7 : Int) (h5 : bit x5) (h7 : rng x7), T X (Yc cy ad E G A 10 Q) (fun (q : Sm × Int) => bit q.2 → J X (Yc cy ad E G A 10 Q) 0 0 101 [(5, vi q.2)] [] q.1) 0 0 21 [(0, .ref (ad r0)), (1, .ref (ad r1)), (2, .ref (ad r2)), (5, vi x5), (6, vi x6), (7, vi x7)] [] s0 (f_X1_rideLine_21 r0 r1 r2 x6 n s0 x5 x7) := by
  intro n
  induction n with
  | zero => intro s0 x5 x7 h5 h7; exact T_none
  | succ n ih =>
    intro s0 x5 x7 h5 h7
    rw [f_X1_rideLine_21]
    refine T_iload (pc := 21) C dX1_rideLine_21 5 rfl ?_
    refine T_aload_n (pc := 23) C dX1_rideLine_23 rfl 2 rfl ?_
    refine Tc_geti (pc := 24) C r2 7 6 8 k2 (by decide) (fun _ => rfl) rfl inX7 (by decide) rfl kc_126 dX1_rideLine_24 (fun z4 => ?_)
    refine T_icmp_gt (pc := 27) C 101 dX1_rideLine_27 rfl h7 z4.1 (fun c5 => ?_) (fun c5 => ?_)
    · refine T_sub (L' := [(5, vi x5)]) [3] rfl ?_
      exact T_exit (fun h9 => h9 h5)
    · refine T_aload_n (pc := 30) C dX1_rideLine_30 rfl 2 rfl ?_
      refine T_iload (pc := 31) C dX1_rideLine_31 5 rfl ?_
      refine T_czVip (pc := 33) zk.1 hZ C [vi x7] [] (fun o h9 hw => ct_X7_stopOn zk s0 r2 x7 k2 h7 hw o h9) kc_127 cm_X7_stopOn (rcc k2 (by decide) (fun _ => rfl) rfl) rfl rfl (Nat.le_of_ble_eq_true rfl) (by decide) (a' := 0) (b' := 0) ⟨rfl, rfl⟩ dX1_rideLine_33 (fun v6 hv6 => ?_)
      refine T_istore (pc := 36) (L' := [(8, vi v6), (0, .ref (ad r0)), (1, .ref (ad r1)), (2, .ref (ad r2)), (5, vi x5), (6, vi x6), (7, vi x7)]) C dX1_rideLine_36 (Nat.le_of_ble_eq_true rfl) rfl ?_
      refine T_aload_n (pc := 38) C dX1_rideLine_38 rfl 2 rfl ?_
      refine Tc_getr (pc := 39) C r1 8 4 10 k1 (by decide) (fun _ => rfl) rfl inX8 (by decide) (v := .ref (ad (r1 + 2))) rfl kc_128 dX1_rideLine_39 ?_
      refine T_iload (pc := 42) C dX1_rideLine_42 0 rfl ?_
      refine T_guard (fun g7 => ?_)
      refine Tc_zald (pc := 44) C (r1 + 2) v6.toNat (kd_8 k1).2.1 g7 rfl dX1_rideLine_44 (fun z8 => ?_)
      refine T_if_ne (pc := 45) C 95 dX1_rideLine_45 rfl (bit_rng z8) (fun c9 => ?_) (fun c9 => ?_)
      · refine T_iinc (pc := 95) (L' := [(7, vi (x7 + 1)), (8, vi v6), (0, .ref (ad r0)), (1, .ref (ad r1)), (2, .ref (ad r2)), (5, vi x5), (6, vi x6)]) C dX1_rideLine_95 (Nat.le_of_ble_eq_true rfl) 6 rfl rfl ?_
        refine T_goto (pc := 98) C 21 dX1_rideLine_98 rfl ?_
        refine T_sub (L' := [(0, .ref (ad r0)), (1, .ref (ad r1)), (2, .ref (ad r2)), (5, vi x5), (6, vi x6), (7, vi (x7 + 1))]) [2, 3, 4, 5, 6, 0] rfl ?_
        refine T_guard (fun g10 => ?_)
        exact ih s0 x5 (x7 + 1) h5 g10
      · refine T_aload_n (pc := 48) C dX1_rideLine_48 rfl 3 rfl ?_
        refine T_iload (pc := 49) C dX1_rideLine_49 5 rfl ?_
        refine T_iload (pc := 51) C dX1_rideLine_51 6 rfl ?_
        refine T_aload_n (pc := 53) C dX1_rideLine_53 rfl 2 rfl ?_
        refine Tc_geti (pc := 54) C r1 8 1 10 k1 (by decide) (fun _ => rfl) rfl inX8 (by decide) rfl kc_124 dX1_rideLine_54 (fun z11 => ?_)
        refine T_czVip (pc := 57) zk.1 hZ C [vi x6, vi x7, vi (s0 r1 1)] [] (fun o h9 hw => ct_X7_whenAt zk s0 r2 x6 x7 (s0 r1 1) k2 h6 h7 (z11.2 rfl) hw o h9) kc_129 cm_X7_whenAt (rcc k2 (by decide) (fun _ => rfl) rfl) rfl rfl (Nat.le_of_ble_eq_true rfl) (by decide) (a' := 0) (b' := 0) ⟨rfl, rfl⟩ dX1_rideLine_57 (fun v12 hv12 => ?_)
        refine T_istore (pc := 60) (L' := [(9, vi v12), (8, vi v6), (0, .ref (ad r0)), (1, .ref (ad r1)), (2, .ref (ad r2)), (5, vi x5), (6, vi x6), (7, vi x7)]) C dX1_rideLine_60 (Nat.le_of_ble_eq_true rfl) rfl ?_
        refine T_aload_n (pc := 62) C dX1_rideLine_62 rfl 2 rfl ?_
        refine T_iload (pc := 63) C dX1_rideLine_63 1 rfl ?_
        refine T_iload (pc := 65) C dX1_rideLine_65 0 rfl ?_
        refine T_iload (pc := 67) C dX1_rideLine_67 0 rfl ?_
        refine T_aload_n (pc := 69) C dX1_rideLine_69 rfl 3 rfl ?_
        refine Tc_getr (pc := 70) C r1 8 3 10 k1 (by decide) (fun _ => rfl) rfl inX8 (by decide) (v := .ref (ad (r1 + 1))) rfl kc_130 dX1_rideLine_70 ?_
        refine T_iload (pc := 73) C dX1_rideLine_73 1 rfl ?_
        refine Tc_iald (pc := 75) C (r1 + 1) 20 10 v6.toNat (kd_8 k1).1 ⟨by decide, by decide⟩ rfl g7 rfl dX1_rideLine_75 (fun z13 => ?_)
        refine T_iadd (pc := 76) C dX1_rideLine_76 ?_
        refine T_guard (fun g14 => ?_)
        refine T_czVi (pc := 77) zk.1 hZ C [vi v6, vi v12, vi (v12 + (s0 (r1 + 1) v6.toNat))] [] (fun o h9 hw => ct_X1_reach zk s0 r0 v6 v12 (v12 + (s0 (r1 + 1) v6.toNat)) k0 hv6.1 hv12.1 g14 hw o h9) kc_131 cm_X1_reach (rcc k0 (by decide) (fun _ => rfl) rfl) rfl rfl (Nat.le_of_ble_eq_true rfl) (by decide) (a' := 0) (b' := 0) ⟨rfl, rfl⟩ dX1_rideLine_77 (fun v15 hv15 => ?_)
        refine T_if_ne (pc := 80) C 88 dX1_rideLine_80 rfl hv15.1 (fun c16 => ?_) (fun c16 => ?_)
        · refine T_iconst (pc := 88) C dX1_rideLine_88 ?_
          refine T_goto (pc := 89) C 93 dX1_rideLine_89 rfl ?_
          refine T_istore (pc := 93) (L' := [(5, vi 1), (9, vi v12), (8, vi v6), (0, .ref (ad r0)), (1, .ref (ad r1)), (2, .ref (ad r2)), (6, vi x6), (7, vi x7)]) C dX1_rideLine_93 (Nat.le_of_ble_eq_true rfl) rfl ?_
          refine T_iinc (pc := 95) (L' := [(7, vi (x7 + 1)), (5, vi 1), (9, vi v12), (8, vi v6), (0, .ref (ad r0)), (1, .ref (ad r1)), (2, .ref (ad r2)), (6, vi x6)]) C dX1_rideLine_95 (Nat.le_of_ble_eq_true rfl) 7 rfl rfl ?_
          refine T_goto (pc := 98) C 21 dX1_rideLine_98 rfl ?_
          refine T_sub (L' := [(0, .ref (ad r0)), (1, .ref (ad r1)), (2, .ref (ad r2)), (5, vi 1), (6, vi x6), (7, vi (x7 + 1))]) [4, 5, 6, 1, 7, 0] rfl ?_
          refine T_guard (fun g17 => ?_)
          exact ih v15.1 1 (x7 + 1) (Or.inr rfl) g17
        · refine T_iload (pc := 83) C dX1_rideLine_83 5 rfl ?_
          refine T_if_eq (pc := 85) C 92 dX1_rideLine_85 rfl (bit_rng h5) (fun c18 => ?_) (fun c18 => ?_)
          · refine T_iconst (pc := 92) C dX1_rideLine_92 ?_
            refine T_istore (pc := 93) (L' := [(5, vi 0), (9, vi v12), (8, vi v6), (0, .ref (ad r0)), (1, .ref (ad r1)), (2, .ref (ad r2)), (6, vi x6), (7, vi x7)]) C dX1_rideLine_93 (Nat.le_of_ble_eq_true rfl) rfl ?_
            refine T_iinc (pc := 95) (L' := [(7, vi (x7 + 1)), (5, vi 0), (9, vi v12), (8, vi v6), (0, .ref (ad r0)), (1, .ref (ad r1)), (2, .ref (ad r2)), (6, vi x6)]) C dX1_rideLine_95 (Nat.le_of_ble_eq_true rfl) 7 rfl rfl ?_
            refine T_goto (pc := 98) C 21 dX1_rideLine_98 rfl ?_
            refine T_sub (L' := [(0, .ref (ad r0)), (1, .ref (ad r1)), (2, .ref (ad r2)), (5, vi 0), (6, vi x6), (7, vi (x7 + 1))]) [4, 5, 6, 1, 7, 0] rfl ?_
            refine T_guard (fun g19 => ?_)
            exact ih v15.1 0 (x7 + 1) (Or.inl rfl) g19
          · refine T_iconst (pc := 88) C dX1_rideLine_88 ?_
            refine T_goto (pc := 89) C 93 dX1_rideLine_89 rfl ?_
            refine T_istore (pc := 93) (L' := [(5, vi 1), (9, vi v12), (8, vi v6), (0, .ref (ad r0)), (1, .ref (ad r1)), (2, .ref (ad r2)), (6, vi x6), (7, vi x7)]) C dX1_rideLine_93 (Nat.le_of_ble_eq_true rfl) rfl ?_
            refine T_iinc (pc := 95) (L' := [(7, vi (x7 + 1)), (5, vi 1), (9, vi v12), (8, vi v6), (0, .ref (ad r0)), (1, .ref (ad r1)), (2, .ref (ad r2)), (6, vi x6)]) C dX1_rideLine_95 (Nat.le_of_ble_eq_true rfl) 7 rfl rfl ?_
            refine T_goto (pc := 98) C 21 dX1_rideLine_98 rfl ?_
            refine T_sub (L' := [(0, .ref (ad r0)), (1, .ref (ad r1)), (2, .ref (ad r2)), (5, vi 1), (6, vi x6), (7, vi (x7 + 1))]) [4, 5, 6, 1, 7, 0] rfl ?_
            refine T_guard (fun g20 => ?_)
            exact ih v15.1 1 (x7 + 1) (Or.inr rfl) g20
def f_X1_rideLine (N : Nat) (σ : Sm) (r0 : Nat) (r1 : Nat) (r2 : Nat) (x3 : Int) (x4 : Int) : Option (Sm × Int) :=
  (f_X7_firstTrip σ r2 x3 x4 (σ r1 1)).bind fun v2 => bl (x3 + 1) fun v3 => if rng v3 then (f_X1_rideLine_21 r0 r1 r2 v2 N σ 0 v3).bind fun q22 => some (q22.1, q22.2) else none
theorem ct_X1_rideLine {l : Launch} {cy : Nat → ClassId} {ad : Nat → Nat} {E : Nat → Nat → Nat} {G : va_G} {Z : vZ} (zk : Zk Z E) (N : Nat) (σ : Sm) (r0 : Nat) (r1 : Nat) (r2 : Nat) (x3 : Int) (x4 : Int) (k0 : kd r0 = 1) (k1 : kd r1 = 8) (k2 : kd r2 = 7) (h3 : rng x3) (h4 : rng x4) (hw : wfc σ) (o : Sm × Int) (h : f_X1_rideLine N σ r0 r1 r2 x3 x4 = some o) : CzI Z l yX1_rideLine cX1_rideLine 10 (some .boolean) rm_X1_rideLine (wlc cy ad E) wfc G (tyc cy) [.ref (ad r0), .ref (ad r1), .ref (ad r2), vi x3, vi x4] σ o.1 o.2 := by
  refine czI_of zk.1 (plainFor_of_name (by decide)) (Nat.le_of_ble_eq_true rfl) hw o o h (fun X Y w => EndI X Y cX1_rideLine rm_X1_rideLine .boolean w) (fun _ _ h => h) (fun X A Q hZ hX C => ?_)
  replace C : Cx X (Yc cy ad E G A 10 Q) cX1_rideLine RX1 (some .boolean) rm_X1_rideLine (tyc cy) := C
  replace hZ : Zx Z X (Yc cy ad E G A 10 Q) := hZ
  show T X (Yc cy ad E G A 10 Q) (fun w => EndI X (Yc cy ad E G A 10 Q) cX1_rideLine rm_X1_rideLine .boolean w) 0 0 0 [(0, .ref (ad r0)), (1, .ref (ad r1)), (2, .ref (ad r2)), (3, vi x3), (4, vi x4)] [] σ (f_X1_rideLine N σ r0 r1 r2 x3 x4)
  unfold f_X1_rideLine
  refine T_iconst (pc := 0) C dX1_rideLine_0 ?_
  refine T_istore (pc := 1) (L' := [(5, vi 0), (0, .ref (ad r0)), (1, .ref (ad r1)), (2, .ref (ad r2)), (3, vi x3), (4, vi x4)]) C dX1_rideLine_1 (Nat.le_of_ble_eq_true rfl) rfl ?_
  refine T_aload_n (pc := 3) C dX1_rideLine_3 rfl 3 rfl ?_
  refine T_iload_n (pc := 4) C dX1_rideLine_4 rfl 4 rfl ?_
  refine T_iload (pc := 5) C dX1_rideLine_5 5 rfl ?_
  refine T_aload_n (pc := 7) C dX1_rideLine_7 rfl 2 rfl ?_
  refine Tc_geti (pc := 8) C r1 8 1 10 k1 (by decide) (fun _ => rfl) rfl inX8 (by decide) rfl kc_124 dX1_rideLine_8 (fun z1 => ?_)
  refine T_czVip (pc := 11) zk.1 hZ C [vi x3, vi x4, vi (σ r1 1)] [] (fun o h9 hw => ct_X7_firstTrip zk σ r2 x3 x4 (σ r1 1) k2 h3 h4 (z1.2 rfl) hw o h9) kc_125 cm_X7_firstTrip (rcc k2 (by decide) (fun _ => rfl) rfl) rfl rfl (Nat.le_of_ble_eq_true rfl) (by decide) (a' := 0) (b' := 0) ⟨rfl, rfl⟩ dX1_rideLine_11 (fun v2 hv2 => ?_)
  refine T_istore (pc := 14) (L' := [(6, vi v2), (5, vi 0), (0, .ref (ad r0)), (1, .ref (ad r1)), (2, .ref (ad r2)), (3, vi x3), (4, vi x4)]) C dX1_rideLine_14 (Nat.le_of_ble_eq_true rfl) rfl ?_
  refine T_iload_n (pc := 16) C dX1_rideLine_16 rfl 5 rfl ?_
  refine T_iconst (pc := 17) C dX1_rideLine_17 ?_
  refine T_iadd (pc := 18) C dX1_rideLine_18 ?_
  refine T_blN (fun v3 => ?_)
  refine T_istore (pc := 19) (L' := [(7, vi v3), (6, vi v2), (5, vi 0), (0, .ref (ad r0)), (1, .ref (ad r1)), (2, .ref (ad r2)), (3, vi x3), (4, vi x4)]) C dX1_rideLine_19 (Nat.le_of_ble_eq_true rfl) rfl ?_
  refine T_sub (L' := [(0, .ref (ad r0)), (1, .ref (ad r1)), (2, .ref (ad r2)), (5, vi 0), (6, vi v2), (7, vi v3)]) [3, 4, 5, 2, 1, 0] rfl ?_
  refine T_guard (fun g21 => ?_)
  refine T_loopE (lp_X1_rideLine_21 zk hZ C r0 r1 r2 k0 k1 k2 v2 hv2.1 N σ 0 v3 (Or.inl rfl) g21) (fun q22 hq22 => ?_)
  refine T_iload (pc := 101) C dX1_rideLine_101 0 rfl ?_
  exact T_iret (pc := 103) (q22.1, q22.2) (fun h9 => h9) (bit_rng hq22) (nar_Z hq22) (by decide) dX1_rideLine_103

abbrev rm_X7_isRunning : Room := ⟨0, 0, 0, 0⟩
theorem cm_X7_isRunning : cmV yX7_isRunning cX7_isRunning 1 (some .boolean) 0 := ⟨kc_28, kc_110, ⟨by decide +kernel, by decide +kernel, by decide +kernel⟩, kc_135, kc_136⟩
def f_X7_isRunning (σ : Sm) (r0 : Nat) : Option Int :=
  (if (σ r0 6) < 2 then some 0 else (if (σ r0 5) = 0 then some 1 else some 0))
theorem ct_X7_isRunning {l : Launch} {cy : Nat → ClassId} {ad : Nat → Nat} {E : Nat → Nat → Nat} {G : va_G} {Z : vZ} (zk : Zk Z E) (σ : Sm) (r0 : Nat) (k0 : kd r0 = 7) (hw : wfc σ) (o : Int) (h : f_X7_isRunning σ r0 = some o) : CzI Z l yX7_isRunning cX7_isRunning 1 (some .boolean) rm_X7_isRunning (wlc cy ad E) wfc G (tyc cy) [.ref (ad r0)] σ σ o := by
  refine czI_of zk.1 (plainFor_of_name (by decide)) (Nat.le_of_ble_eq_true rfl) hw (σ, o) o h (fun X Y v => EndI X Y cX7_isRunning rm_X7_isRunning .boolean (σ, v)) (fun _ _ h => h) (fun X A Q hZ hX C => ?_)
  replace C : Cx X (Yc cy ad E G A 1 Q) cX7_isRunning RX7 (some .boolean) rm_X7_isRunning (tyc cy) := C
  replace hZ : Zx Z X (Yc cy ad E G A 1 Q) := hZ
  show T X (Yc cy ad E G A 1 Q) (fun v => EndI X (Yc cy ad E G A 1 Q) cX7_isRunning rm_X7_isRunning .boolean (σ, v)) 0 0 0 [(0, .ref (ad r0))] [] σ (f_X7_isRunning σ r0)
  unfold f_X7_isRunning
  refine T_aload_n (pc := 0) C dX7_isRunning_0 rfl 0 rfl ?_
  refine Tc_geti (pc := 1) C r0 7 6 8 k0 (by decide) (fun _ => rfl) rfl inX7 (by decide) rfl kc_118 dX7_isRunning_1 (fun z1 => ?_)
  refine T_iconst (pc := 4) C dX7_isRunning_4 ?_
  refine T_icmp_lt (pc := 5) C 19 dX7_isRunning_5 rfl z1.1 (rngL rfl) (fun c2 => ?_) (fun c2 => ?_)
  · refine T_iconst (pc := 19) C dX7_isRunning_19 ?_
    exact T_iret (pc := 20) 0 (fun h9 => h9) (rngL rfl) (nar_Z (Or.inl rfl)) (by decide) dX7_isRunning_20
  · refine T_aload_n (pc := 8) C dX7_isRunning_8 rfl 0 rfl ?_
    refine Tc_geti (pc := 9) C r0 7 5 8 k0 (by decide) (fun _ => rfl) rfl inX7 (by decide) rfl kc_134 dX7_isRunning_9 (fun z3 => ?_)
    refine T_if_ne (pc := 12) C 19 dX7_isRunning_12 rfl (bit_rng (z3.2 rfl)) (fun c4 => ?_) (fun c4 => ?_)
    · refine T_iconst (pc := 19) C dX7_isRunning_19 ?_
      exact T_iret (pc := 20) 0 (fun h9 => h9) (rngL rfl) (nar_Z (Or.inl rfl)) (by decide) dX7_isRunning_20
    · refine T_iconst (pc := 15) C dX7_isRunning_15 ?_
      refine T_goto (pc := 16) C 20 dX7_isRunning_16 rfl ?_
      exact T_iret (pc := 20) 1 (fun h9 => h9) (rngL rfl) (nar_Z (Or.inr rfl)) (by decide) dX7_isRunning_20

abbrev rm_X7_placeOf : Room := ⟨0, 0, 0, 0⟩
theorem cm_X7_placeOf : cmV yX7_placeOf cX7_placeOf 3 (some .int) 1 := ⟨kc_31, kc_110, ⟨by decide +kernel, by decide +kernel, by decide +kernel⟩, kc_137, kc_138⟩
def f_X7_placeOf_2 (σ : Sm) (r0 : Nat) (x1 : Int) : Nat → Int → Option (Int ⊕ Unit)
  | 0, _ => none
  | n + 1, x2 => (if (σ r0 6) ≤ x2 then some (.inr ()) else if 0 ≤ x2 ∧ x2 < 6 then (if (σ (r0 + 1) x2.toNat) = x1 then some (.inl x2) else f_X7_placeOf_2 σ r0 x1 n (x2 + 1)) else none)
theorem lp_X7_placeOf_2 {X : vjX} {A : Nat → Prop} {Q : State → Prop} {cy : Nat → ClassId} {ad : Nat → Nat} {E : Nat → Nat → Nat} {G : va_G} {Z : vZ} (zk : Zk Z E) (hZ : Zx Z X (Yc cy ad E G A 3 Q)) (C : Cx X (Yc cy ad E G A 3 Q) cX7_placeOf RX7 (some .int) rm_X7_placeOf (tyc cy)) (σ : Sm) (r0 : Nat) (k0 : kd r0 = 7) (x1 : Int) (h1 : rng x1) : ∀ (n : Nat) (x2 : Int) (h2 : rng x2), T X (Yc cy ad E G A 3 Q) (Sum.elim (fun v => EndI X (Yc cy ad E G A 3 Q) cX7_placeOf rm_X7_placeOf .int (σ, v)) (fun (q : Unit) => True → J X (Yc cy ad E G A 3 Q) 0 0 28 [] [] σ)) 0 0 2 [(0, .ref (ad r0)), (1, vi x1), (2, vi x2)] [] σ (f_X7_placeOf_2 σ r0 x1 n x2) := by
  intro n
  induction n with
  | zero => intro x2 h2; exact T_none
  | succ n ih =>
    intro x2 h2
    rw [f_X7_placeOf_2]
    refine T_iload_n (pc := 2) C dX7_placeOf_2 rfl 2 rfl ?_
    refine T_aload_n (pc := 3) C dX7_placeOf_3 rfl 0 rfl ?_
    refine Tc_geti (pc := 4) C r0 7 6 8 k0 (by decide) (fun _ => rfl) rfl inX7 (by decide) rfl kc_118 dX7_placeOf_4 (fun z6 => ?_)
    refine T_icmp_ge (pc := 7) C 28 dX7_placeOf_7 rfl h2 z6.1 (fun c7 => ?_) (fun c7 => ?_)
    · refine T_sub (L' := []) [] rfl ?_
      exact T_exit (fun h9 => h9 trivial)
    · refine T_aload_n (pc := 10) C dX7_placeOf_10 rfl 0 rfl ?_
      refine Tc_getr (pc := 11) C r0 7 7 8 k0 (by decide) (fun _ => rfl) rfl inX7 (by decide) (v := .ref (ad (r0 + 1))) rfl kc_119 dX7_placeOf_11 ?_
      refine T_iload_n (pc := 14) C dX7_placeOf_14 rfl 2 rfl ?_
      refine T_guard (fun g8 => ?_)
      refine Tc_iald (pc := 15) C (r0 + 1) 22 6 x2.toNat (kd_7 k0) ⟨by decide, by decide⟩ rfl g8 rfl dX7_placeOf_15 (fun z9 => ?_)
      refine T_iload_n (pc := 16) C dX7_placeOf_16 rfl 1 rfl ?_
      refine T_icmp_ne (pc := 17) C 22 dX7_placeOf_17 rfl z9 h1 (fun c10 => ?_) (fun c10 => ?_)
      · refine T_iinc (pc := 22) (L' := [(2, vi (x2 + 1)), (0, .ref (ad r0)), (1, vi x1)]) C dX7_placeOf_22 (Nat.le_of_ble_eq_true rfl) 2 rfl rfl ?_
        refine T_goto (pc := 25) C 2 dX7_placeOf_25 rfl ?_
        refine T_sub (L' := [(0, .ref (ad r0)), (1, vi x1), (2, vi (x2 + 1))]) [1, 2, 0] rfl ?_
        exact ih (x2 + 1) (rng_inc c7 h2 z6.1)
      · refine T_iload_n (pc := 20) C dX7_placeOf_20 rfl 2 rfl ?_
        exact T_iret (pc := 21) (Sum.inl x2) (fun h9 => h9) h2 (nar_I _) (by decide) dX7_placeOf_21
def f_X7_placeOf (N : Nat) (σ : Sm) (r0 : Nat) (x1 : Int) : Option Int :=
  (f_X7_placeOf_2 σ r0 x1 N 0).bind (Sum.elim (fun v => some v) fun q11 => some (-1))
theorem ct_X7_placeOf {l : Launch} {cy : Nat → ClassId} {ad : Nat → Nat} {E : Nat → Nat → Nat} {G : va_G} {Z : vZ} (zk : Zk Z E) (N : Nat) (σ : Sm) (r0 : Nat) (x1 : Int) (k0 : kd r0 = 7) (h1 : rng x1) (hw : wfc σ) (o : Int) (h : f_X7_placeOf N σ r0 x1 = some o) : CzI Z l yX7_placeOf cX7_placeOf 3 (some .int) rm_X7_placeOf (wlc cy ad E) wfc G (tyc cy) [.ref (ad r0), vi x1] σ σ o := by
  refine czI_of zk.1 (plainFor_of_name (by decide)) (Nat.le_of_ble_eq_true rfl) hw (σ, o) o h (fun X Y v => EndI X Y cX7_placeOf rm_X7_placeOf .int (σ, v)) (fun _ _ h => h) (fun X A Q hZ hX C => ?_)
  replace C : Cx X (Yc cy ad E G A 3 Q) cX7_placeOf RX7 (some .int) rm_X7_placeOf (tyc cy) := C
  replace hZ : Zx Z X (Yc cy ad E G A 3 Q) := hZ
  show T X (Yc cy ad E G A 3 Q) (fun v => EndI X (Yc cy ad E G A 3 Q) cX7_placeOf rm_X7_placeOf .int (σ, v)) 0 0 0 [(0, .ref (ad r0)), (1, vi x1)] [] σ (f_X7_placeOf N σ r0 x1)
  unfold f_X7_placeOf
  refine T_iconst (pc := 0) C dX7_placeOf_0 ?_
  refine T_istore_n (pc := 1) (L' := [(2, vi 0), (0, .ref (ad r0)), (1, vi x1)]) C dX7_placeOf_1 rfl (Nat.le_of_ble_eq_true rfl) rfl ?_
  refine T_sub (L' := [(0, .ref (ad r0)), (1, vi x1), (2, vi 0)]) [1, 2, 0] rfl ?_
  refine T_loopS (g := fun v => v) (lp_X7_placeOf_2 zk hZ C σ r0 k0 x1 h1 N 0 (rngL rfl)) (fun v h9 => h9) (fun q11 hq11 => ?_)
  refine T_iconst (pc := 28) C dX7_placeOf_28 ?_
  exact T_iret (pc := 29) (-1) (fun h9 => h9) (rngL rfl) (nar_I _) (by decide) dX7_placeOf_29

abbrev rm_X1_rideOn : Room := ⟨3, 0, 0, 74⟩
theorem cm_X1_rideOn : cmV yX1_rideOn cX1_rideOn 7 (some .boolean) 2 := ⟨kc_5, kc_99, ⟨by decide +kernel, by decide +kernel, by decide +kernel⟩, kc_144, kc_145⟩
def f_X1_rideOn_27 (N : Nat) (r0 : Nat) (r1 : Nat) (x2 : Int) : Nat → Sm → Int → Int → Option (Sm × Int)
  | 0, _, _, _ => none
  | n + 1, s0, x3, x4 => (if (s0 r1 7) ≤ x4 then some (s0, x3) else if 0 ≤ x4 ∧ x4 < 5 then (f_X7_placeOf N s0 (r1 + 23 + 2 * x4.toNat) x2).bind fun v16 => (if v16 = (-1) then f_X1_rideOn_27 N r0 r1 x2 n s0 x3 (x4 + 1) else (f_X7_isRunning s0 (r1 + 23 + 2 * x4.toNat)).bind fun v18 => (if v18 = 0 then f_X1_rideOn_27 N r0 r1 x2 n s0 x3 (x4 + 1) else if 0 ≤ x2 ∧ x2 < 10 then (f_X1_rideLine N s0 r0 r1 (r1 + 23 + 2 * x4.toNat) v16 (s0 (r0 + 2) x2.toNat)).bind fun v22 => (if v22.2 = 0 then (if x3 = 0 then f_X1_rideOn_27 N r0 r1 x2 n v22.1 0 (x4 + 1) else f_X1_rideOn_27 N r0 r1 x2 n v22.1 1 (x4 + 1)) else f_X1_rideOn_27 N r0 r1 x2 n v22.1 1 (x4 + 1)) else none)) else none)
theorem lp_X1_rideOn_27 {X : vjX} {A : Nat → Prop} {Q : State → Prop} {cy : Nat → ClassId} {ad : Nat → Nat} {E : Nat → Nat → Nat} {G : va_G} {Z : vZ} (zk : Zk Z E) (hZ : Zx Z X (Yc cy ad E G A 7 Q)) (C : Cx X (Yc cy ad E G A 7 Q) cX1_rideOn RX1 (some .boolean) rm_X1_rideOn (tyc cy)) (N : Nat) (r0 : Nat) (r1 : Nat) (k0 : kd r0 = 1) (k1 : kd r1 = 8) (x2 : Int) (h2 : rng x2) : ∀ (n : Nat) (s0 : Sm) (x3 : Int) (x4 : Int) (h3 : bit x3) (h4 : rng x4), T X (Yc cy ad E G A 7 Q) (fun (q : Sm × Int) => bit q.2 → J X (Yc cy ad E G A 7 Q) 0 0 101 [(3, vi q.2)] [] q.1) 0 0 27 [(0, .ref (ad r0)), (1, .ref (ad r1)), (2, vi x2), (3, vi x3), (4, vi x4)] [] s0 (f_X1_rideOn_27 N r0 r1 x2 n s0 x3 x4) := by
  intro n
  induction n with
  | zero => intro s0 x3 x4 h3 h4; exact T_none
  | succ n ih =>
    intro s0 x3 x4 h3 h4
    rw [f_X1_rideOn_27]
    refine T_iload (pc := 27) C dX1_rideOn_27 4 rfl ?_
    refine T_aload_n (pc := 29) C dX1_rideOn_29 rfl 1 rfl ?_
    refine Tc_geti (pc := 30) C r1 8 7 10 k1 (by decide) (fun _ => rfl) rfl inX8 (by decide) rfl kc_139 dX1_rideOn_30 (fun z12 => ?_)
    refine T_icmp_ge (pc := 33) C 101 dX1_rideOn_33 rfl h4 z12.1 (fun c13 => ?_) (fun c13 => ?_)
    · refine T_sub (L' := [(3, vi x3)]) [3] rfl ?_
      exact T_exit (fun h9 => h9 h3)
    · refine T_aload_n (pc := 36) C dX1_rideOn_36 rfl 1 rfl ?_
      refine Tc_getr (pc := 37) C r1 8 8 10 k1 (by decide) (fun _ => rfl) rfl inX8 (by decide) (v := .ref (ad (r1 + 4))) rfl kc_140 dX1_rideOn_37 ?_
      refine T_iload (pc := 40) C dX1_rideOn_40 4 rfl ?_
      refine T_guard (fun g14 => ?_)
      refine Tc_ald27 (pc := 42) C r1 k1 g14 dX1_rideOn_42 (fun y15 => ?_)
      refine T_astore (pc := 43) (L' := [(5, .ref (ad (r1 + 23 + 2 * x4.toNat))), (0, .ref (ad r0)), (1, .ref (ad r1)), (2, vi x2), (3, vi x3), (4, vi x4)]) C dX1_rideOn_43 (Nat.le_of_ble_eq_true rfl) rfl ?_
      refine T_aload (pc := 45) C dX1_rideOn_45 0 rfl ?_
      refine T_iload_n (pc := 47) C dX1_rideOn_47 rfl 3 rfl ?_
      refine T_czVip (pc := 48) zk.1 hZ C [vi x2] [] (fun o h9 hw => ct_X7_placeOf zk N s0 (r1 + 23 + 2 * x4.toNat) x2 y15 h2 hw o h9) kc_141 cm_X7_placeOf (rcc y15 (by decide) (fun _ => rfl) rfl) rfl rfl (Nat.le_of_ble_eq_true rfl) (by decide) (a' := 0) (b' := 0) ⟨rfl, rfl⟩ dX1_rideOn_48 (fun v16 hv16 => ?_)
      refine T_istore (pc := 51) (L' := [(6, vi v16), (5, .ref (ad (r1 + 23 + 2 * x4.toNat))), (0, .ref (ad r0)), (1, .ref (ad r1)), (2, vi x2), (3, vi x3), (4, vi x4)]) C dX1_rideOn_51 (Nat.le_of_ble_eq_true rfl) rfl ?_
      refine T_iload (pc := 53) C dX1_rideOn_53 0 rfl ?_
      refine T_iconst (pc := 55) C dX1_rideOn_55 ?_
      refine T_icmp_eq (pc := 56) C 95 dX1_rideOn_56 rfl hv16.1 (rngL rfl) (fun c17 => ?_) (fun c17 => ?_)
      · refine T_iinc (pc := 95) (L' := [(4, vi (x4 + 1)), (6, vi v16), (5, .ref (ad (r1 + 23 + 2 * x4.toNat))), (0, .ref (ad r0)), (1, .ref (ad r1)), (2, vi x2), (3, vi x3)]) C dX1_rideOn_95 (Nat.le_of_ble_eq_true rfl) 6 rfl rfl ?_
        refine T_goto (pc := 98) C 27 dX1_rideOn_98 rfl ?_
        refine T_sub (L' := [(0, .ref (ad r0)), (1, .ref (ad r1)), (2, vi x2), (3, vi x3), (4, vi (x4 + 1))]) [3, 4, 5, 6, 0] rfl ?_
        exact ih s0 x3 (x4 + 1) h3 (rng_inc c13 h4 z12.1)
      · refine T_aload (pc := 59) C dX1_rideOn_59 1 rfl ?_
        refine T_czVip (pc := 61) zk.1 hZ C [] [] (fun o h9 hw => ct_X7_isRunning zk s0 (r1 + 23 + 2 * x4.toNat) y15 hw o h9) kc_142 cm_X7_isRunning (rcc y15 (by decide) (fun _ => rfl) rfl) rfl rfl (Nat.le_of_ble_eq_true rfl) (by decide) (a' := 0) (b' := 0) ⟨rfl, rfl⟩ dX1_rideOn_61 (fun v18 hv18 => ?_)
        refine T_if_eq (pc := 64) C 95 dX1_rideOn_64 rfl hv18.1 (fun c19 => ?_) (fun c19 => ?_)
        · refine T_iinc (pc := 95) (L' := [(4, vi (x4 + 1)), (6, vi v16), (5, .ref (ad (r1 + 23 + 2 * x4.toNat))), (0, .ref (ad r0)), (1, .ref (ad r1)), (2, vi x2), (3, vi x3)]) C dX1_rideOn_95 (Nat.le_of_ble_eq_true rfl) 6 rfl rfl ?_
          refine T_goto (pc := 98) C 27 dX1_rideOn_98 rfl ?_
          refine T_sub (L' := [(0, .ref (ad r0)), (1, .ref (ad r1)), (2, vi x2), (3, vi x3), (4, vi (x4 + 1))]) [3, 4, 5, 6, 0] rfl ?_
          exact ih s0 x3 (x4 + 1) h3 (rng_inc c13 h4 z12.1)
        · refine T_aload_n (pc := 67) C dX1_rideOn_67 rfl 2 rfl ?_
          refine T_aload_n (pc := 68) C dX1_rideOn_68 rfl 3 rfl ?_
          refine T_aload (pc := 69) C dX1_rideOn_69 1 rfl ?_
          refine T_iload (pc := 71) C dX1_rideOn_71 0 rfl ?_
          refine T_aload_n (pc := 73) C dX1_rideOn_73 rfl 2 rfl ?_
          refine Tc_getr (pc := 74) C r0 1 1 4 k0 (by decide) (fun _ => rfl) rfl inX1 (by decide) (v := .ref (ad (r0 + 2))) rfl kc_96 dX1_rideOn_74 ?_
          refine T_iload_n (pc := 77) C dX1_rideOn_77 rfl 4 rfl ?_
          refine T_guard (fun g20 => ?_)
          refine Tc_iald (pc := 78) C (r0 + 2) 20 10 x2.toNat (kd_1 k0).2.1 ⟨by decide, by decide⟩ rfl g20 rfl dX1_rideOn_78 (fun z21 => ?_)
          refine T_czVi (pc := 79) zk.1 hZ C [.ref (ad r1), .ref (ad (r1 + 23 + 2 * x4.toNat)), vi v16, vi (s0 (r0 + 2) x2.toNat)] [] (fun o h9 hw => ct_X1_rideLine zk N s0 r0 r1 (r1 + 23 + 2 * x4.toNat) v16 (s0 (r0 + 2) x2.toNat) k0 k1 y15 hv16.1 z21 hw o h9) kc_143 cm_X1_rideLine (rcc k0 (by decide) (fun _ => rfl) rfl) rfl rfl (Nat.le_of_ble_eq_true rfl) (by decide) (a' := 0) (b' := 0) ⟨rfl, rfl⟩ dX1_rideOn_79 (fun v22 hv22 => ?_)
          refine T_if_ne (pc := 82) C 89 dX1_rideOn_82 rfl hv22.1 (fun c23 => ?_) (fun c23 => ?_)
          · refine T_iconst (pc := 89) C dX1_rideOn_89 ?_
            refine T_goto (pc := 90) C 94 dX1_rideOn_90 rfl ?_
            refine T_istore_n (pc := 94) (L' := [(3, vi 1), (6, vi v16), (5, .ref (ad (r1 + 23 + 2 * x4.toNat))), (0, .ref (ad r0)), (1, .ref (ad r1)), (2, vi x2), (4, vi x4)]) C dX1_rideOn_94 rfl (Nat.le_of_ble_eq_true rfl) rfl ?_
            refine T_iinc (pc := 95) (L' := [(4, vi (x4 + 1)), (3, vi 1), (6, vi v16), (5, .ref (ad (r1 + 23 + 2 * x4.toNat))), (0, .ref (ad r0)), (1, .ref (ad r1)), (2, vi x2)]) C dX1_rideOn_95 (Nat.le_of_ble_eq_true rfl) 6 rfl rfl ?_
            refine T_goto (pc := 98) C 27 dX1_rideOn_98 rfl ?_
            refine T_sub (L' := [(0, .ref (ad r0)), (1, .ref (ad r1)), (2, vi x2), (3, vi 1), (4, vi (x4 + 1))]) [4, 5, 6, 1, 0] rfl ?_
            exact ih v22.1 1 (x4 + 1) (Or.inr rfl) (rng_inc c13 h4 z12.1)
          · refine T_iload_n (pc := 85) C dX1_rideOn_85 rfl 5 rfl ?_
            refine T_if_eq (pc := 86) C 93 dX1_rideOn_86 rfl (bit_rng h3) (fun c24 => ?_) (fun c24 => ?_)
            · refine T_iconst (pc := 93) C dX1_rideOn_93 ?_
              refine T_istore_n (pc := 94) (L' := [(3, vi 0), (6, vi v16), (5, .ref (ad (r1 + 23 + 2 * x4.toNat))), (0, .ref (ad r0)), (1, .ref (ad r1)), (2, vi x2), (4, vi x4)]) C dX1_rideOn_94 rfl (Nat.le_of_ble_eq_true rfl) rfl ?_
              refine T_iinc (pc := 95) (L' := [(4, vi (x4 + 1)), (3, vi 0), (6, vi v16), (5, .ref (ad (r1 + 23 + 2 * x4.toNat))), (0, .ref (ad r0)), (1, .ref (ad r1)), (2, vi x2)]) C dX1_rideOn_95 (Nat.le_of_ble_eq_true rfl) 6 rfl rfl ?_
              refine T_goto (pc := 98) C 27 dX1_rideOn_98 rfl ?_
              refine T_sub (L' := [(0, .ref (ad r0)), (1, .ref (ad r1)), (2, vi x2), (3, vi 0), (4, vi (x4 + 1))]) [4, 5, 6, 1, 0] rfl ?_
              exact ih v22.1 0 (x4 + 1) (Or.inl rfl) (rng_inc c13 h4 z12.1)
            · refine T_iconst (pc := 89) C dX1_rideOn_89 ?_
              refine T_goto (pc := 90) C 94 dX1_rideOn_90 rfl ?_
              refine T_istore_n (pc := 94) (L' := [(3, vi 1), (6, vi v16), (5, .ref (ad (r1 + 23 + 2 * x4.toNat))), (0, .ref (ad r0)), (1, .ref (ad r1)), (2, vi x2), (4, vi x4)]) C dX1_rideOn_94 rfl (Nat.le_of_ble_eq_true rfl) rfl ?_
              refine T_iinc (pc := 95) (L' := [(4, vi (x4 + 1)), (3, vi 1), (6, vi v16), (5, .ref (ad (r1 + 23 + 2 * x4.toNat))), (0, .ref (ad r0)), (1, .ref (ad r1)), (2, vi x2)]) C dX1_rideOn_95 (Nat.le_of_ble_eq_true rfl) 6 rfl rfl ?_
              refine T_goto (pc := 98) C 27 dX1_rideOn_98 rfl ?_
              refine T_sub (L' := [(0, .ref (ad r0)), (1, .ref (ad r1)), (2, vi x2), (3, vi 1), (4, vi (x4 + 1))]) [4, 5, 6, 1, 0] rfl ?_
              exact ih v22.1 1 (x4 + 1) (Or.inr rfl) (rng_inc c13 h4 z12.1)
def f_X1_rideOn (N : Nat) (σ : Sm) (r0 : Nat) (r1 : Nat) (x2 : Int) : Option (Sm × Int) :=
  if 0 ≤ x2 ∧ x2 < 10 then (if 1000000000 ≤ (σ (r0 + 2) x2.toNat) then some (σ, 0) else (if (σ (r1 + 2) x2.toNat) = 0 then (f_X1_rideOn_27 N r0 r1 x2 N σ 0 0).bind fun q25 => some (q25.1, q25.2) else some (σ, 0))) else none
theorem ct_X1_rideOn {l : Launch} {cy : Nat → ClassId} {ad : Nat → Nat} {E : Nat → Nat → Nat} {G : va_G} {Z : vZ} (zk : Zk Z E) (N : Nat) (σ : Sm) (r0 : Nat) (r1 : Nat) (x2 : Int) (k0 : kd r0 = 1) (k1 : kd r1 = 8) (h2 : rng x2) (hw : wfc σ) (o : Sm × Int) (h : f_X1_rideOn N σ r0 r1 x2 = some o) : CzI Z l yX1_rideOn cX1_rideOn 7 (some .boolean) rm_X1_rideOn (wlc cy ad E) wfc G (tyc cy) [.ref (ad r0), .ref (ad r1), vi x2] σ o.1 o.2 := by
  refine czI_of zk.1 (plainFor_of_name (by decide)) (Nat.le_of_ble_eq_true rfl) hw o o h (fun X Y w => EndI X Y cX1_rideOn rm_X1_rideOn .boolean w) (fun _ _ h => h) (fun X A Q hZ hX C => ?_)
  replace C : Cx X (Yc cy ad E G A 7 Q) cX1_rideOn RX1 (some .boolean) rm_X1_rideOn (tyc cy) := C
  replace hZ : Zx Z X (Yc cy ad E G A 7 Q) := hZ
  show T X (Yc cy ad E G A 7 Q) (fun w => EndI X (Yc cy ad E G A 7 Q) cX1_rideOn rm_X1_rideOn .boolean w) 0 0 0 [(0, .ref (ad r0)), (1, .ref (ad r1)), (2, vi x2)] [] σ (f_X1_rideOn N σ r0 r1 x2)
  unfold f_X1_rideOn
  refine T_aload_n (pc := 0) C dX1_rideOn_0 rfl 0 rfl ?_
  refine Tc_getr (pc := 1) C r0 1 1 4 k0 (by decide) (fun _ => rfl) rfl inX1 (by decide) (v := .ref (ad (r0 + 2))) rfl kc_96 dX1_rideOn_1 ?_
  refine T_iload_n (pc := 4) C dX1_rideOn_4 rfl 2 rfl ?_
  refine T_guard (fun g1 => ?_)
  refine Tc_iald (pc := 5) C (r0 + 2) 20 10 x2.toNat (kd_1 k0).2.1 ⟨by decide, by decide⟩ rfl g1 rfl dX1_rideOn_5 (fun z2 => ?_)
  refine T_ldc (pc := 6) C 1000000000 dX1_rideOn_6 kc_95 (by decide) ?_
  refine T_icmp_ge (pc := 8) C 20 dX1_rideOn_8 rfl z2 (rngL rfl) (fun c3 => ?_) (fun c3 => ?_)
  · refine T_iconst (pc := 20) C dX1_rideOn_20 ?_
    exact T_iret (pc := 21) (σ, 0) (fun h9 => h9) (rngL rfl) (nar_Z (Or.inl rfl)) (by decide) dX1_rideOn_21
  · refine T_aload_n (pc := 11) C dX1_rideOn_11 rfl 1 rfl ?_
    refine Tc_getr (pc := 12) C r1 8 4 10 k1 (by decide) (fun _ => rfl) rfl inX8 (by decide) (v := .ref (ad (r1 + 2))) rfl kc_128 dX1_rideOn_12 ?_
    refine T_iload_n (pc := 15) C dX1_rideOn_15 rfl 2 rfl ?_
    refine Tc_zald (pc := 16) C (r1 + 2) x2.toNat (kd_8 k1).2.1 g1 rfl dX1_rideOn_16 (fun z4 => ?_)
    refine T_if_eq (pc := 17) C 22 dX1_rideOn_17 rfl (bit_rng z4) (fun c5 => ?_) (fun c5 => ?_)
    · refine T_iconst (pc := 22) C dX1_rideOn_22 ?_
      refine T_istore_n (pc := 23) (L' := [(3, vi 0), (0, .ref (ad r0)), (1, .ref (ad r1)), (2, vi x2)]) C dX1_rideOn_23 rfl (Nat.le_of_ble_eq_true rfl) rfl ?_
      refine T_iconst (pc := 24) C dX1_rideOn_24 ?_
      refine T_istore (pc := 25) (L' := [(4, vi 0), (3, vi 0), (0, .ref (ad r0)), (1, .ref (ad r1)), (2, vi x2)]) C dX1_rideOn_25 (Nat.le_of_ble_eq_true rfl) rfl ?_
      refine T_sub (L' := [(0, .ref (ad r0)), (1, .ref (ad r1)), (2, vi x2), (3, vi 0), (4, vi 0)]) [2, 3, 4, 1, 0] rfl ?_
      refine T_loopE (lp_X1_rideOn_27 zk hZ C N r0 r1 k0 k1 x2 h2 N σ 0 0 (Or.inl rfl) (rngL rfl)) (fun q25 hq25 => ?_)
      refine T_iload_n (pc := 101) C dX1_rideOn_101 rfl 0 rfl ?_
      exact T_iret (pc := 102) (q25.1, q25.2) (fun h9 => h9) (bit_rng hq25) (nar_Z hq25) (by decide) dX1_rideOn_102
    · refine T_iconst (pc := 20) C dX1_rideOn_20 ?_
      exact T_iret (pc := 21) (σ, 0) (fun h9 => h9) (rngL rfl) (nar_Z (Or.inl rfl)) (by decide) dX1_rideOn_21

abbrev rm_X8_walkBetween : Room := ⟨0, 0, 0, 0⟩
theorem cm_X8_walkBetween : cmV yX8_walkBetween cX8_walkBetween 3 (some .int) 2 := ⟨kc_45, kc_147, ⟨by decide +kernel, by decide +kernel, by decide +kernel⟩, kc_148, kc_149⟩
def f_X8_walkBetween (σ : Sm) (r0 : Nat) (x1 : Int) (x2 : Int) : Option Int :=
  if 0 ≤ ((x1 * 10) + x2) ∧ ((x1 * 10) + x2) < 100 then some (σ (r0 + 3) ((x1 * 10) + x2).toNat) else none
theorem ct_X8_walkBetween {l : Launch} {cy : Nat → ClassId} {ad : Nat → Nat} {E : Nat → Nat → Nat} {G : va_G} {Z : vZ} (zk : Zk Z E) (σ : Sm) (r0 : Nat) (x1 : Int) (x2 : Int) (k0 : kd r0 = 8) (h1 : rng x1) (h2 : rng x2) (hw : wfc σ) (o : Int) (h : f_X8_walkBetween σ r0 x1 x2 = some o) : CzI Z l yX8_walkBetween cX8_walkBetween 3 (some .int) rm_X8_walkBetween (wlc cy ad E) wfc G (tyc cy) [.ref (ad r0), vi x1, vi x2] σ σ o := by
  refine czI_of zk.1 (plainFor_of_name (by decide)) (Nat.le_of_ble_eq_true rfl) hw (σ, o) o h (fun X Y v => EndI X Y cX8_walkBetween rm_X8_walkBetween .int (σ, v)) (fun _ _ h => h) (fun X A Q hZ hX C => ?_)
  replace C : Cx X (Yc cy ad E G A 3 Q) cX8_walkBetween RX8 (some .int) rm_X8_walkBetween (tyc cy) := C
  replace hZ : Zx Z X (Yc cy ad E G A 3 Q) := hZ
  show T X (Yc cy ad E G A 3 Q) (fun v => EndI X (Yc cy ad E G A 3 Q) cX8_walkBetween rm_X8_walkBetween .int (σ, v)) 0 0 0 [(0, .ref (ad r0)), (1, vi x1), (2, vi x2)] [] σ (f_X8_walkBetween σ r0 x1 x2)
  unfold f_X8_walkBetween
  refine T_aload_n (pc := 0) C dX8_walkBetween_0 rfl 0 rfl ?_
  refine Tc_getr (pc := 1) C r0 8 6 10 k0 (by decide) (fun _ => rfl) rfl inX8 (by decide) (v := .ref (ad (r0 + 3))) rfl kc_146 dX8_walkBetween_1 ?_
  refine T_iload_n (pc := 4) C dX8_walkBetween_4 rfl 1 rfl ?_
  refine T_bipush (pc := 5) C dX8_walkBetween_5 (by decide) ?_
  refine T_imul (pc := 7) C dX8_walkBetween_7 ?_
  refine T_iload_n (pc := 8) C dX8_walkBetween_8 rfl 2 rfl ?_
  refine T_iadd (pc := 9) C dX8_walkBetween_9 ?_
  refine T_guard (fun g1 => ?_)
  refine Tc_iald (pc := 10) C (r0 + 3) 21 100 ((x1 * 10) + x2).toNat (kd_8 k0).2.2.1 ⟨by decide, by decide⟩ rfl g1 rfl dX8_walkBetween_10 (fun z2 => ?_)
  exact T_iret (pc := 11) (σ (r0 + 3) ((x1 * 10) + x2).toNat) (fun h9 => h9) z2 (nar_I _) (by decide) dX8_walkBetween_11

abbrev rm_X8_canWalk : Room := ⟨1, 0, 0, 22⟩
theorem cm_X8_canWalk : cmV yX8_canWalk cX8_canWalk 3 (some .boolean) 2 := ⟨kc_46, kc_147, ⟨by decide +kernel, by decide +kernel, by decide +kernel⟩, kc_152, kc_153⟩
def f_X8_canWalk (σ : Sm) (r0 : Nat) (x1 : Int) (x2 : Int) : Option Int :=
  (f_X8_walkBetween σ r0 x1 x2).bind fun v1 => (if v1 ≤ 0 then some 0 else if 0 ≤ x1 ∧ x1 < 10 then (if (σ (r0 + 2) x1.toNat) = 0 then if 0 ≤ x2 ∧ x2 < 10 then (if (σ (r0 + 2) x2.toNat) = 0 then some 1 else some 0) else none else some 0) else none)
theorem ct_X8_canWalk {l : Launch} {cy : Nat → ClassId} {ad : Nat → Nat} {E : Nat → Nat → Nat} {G : va_G} {Z : vZ} (zk : Zk Z E) (σ : Sm) (r0 : Nat) (x1 : Int) (x2 : Int) (k0 : kd r0 = 8) (h1 : rng x1) (h2 : rng x2) (hw : wfc σ) (o : Int) (h : f_X8_canWalk σ r0 x1 x2 = some o) : CzI Z l yX8_canWalk cX8_canWalk 3 (some .boolean) rm_X8_canWalk (wlc cy ad E) wfc G (tyc cy) [.ref (ad r0), vi x1, vi x2] σ σ o := by
  refine czI_of zk.1 (plainFor_of_name (by decide)) (Nat.le_of_ble_eq_true rfl) hw (σ, o) o h (fun X Y v => EndI X Y cX8_canWalk rm_X8_canWalk .boolean (σ, v)) (fun _ _ h => h) (fun X A Q hZ hX C => ?_)
  replace C : Cx X (Yc cy ad E G A 3 Q) cX8_canWalk RX8 (some .boolean) rm_X8_canWalk (tyc cy) := C
  replace hZ : Zx Z X (Yc cy ad E G A 3 Q) := hZ
  show T X (Yc cy ad E G A 3 Q) (fun v => EndI X (Yc cy ad E G A 3 Q) cX8_canWalk rm_X8_canWalk .boolean (σ, v)) 0 0 0 [(0, .ref (ad r0)), (1, vi x1), (2, vi x2)] [] σ (f_X8_canWalk σ r0 x1 x2)
  unfold f_X8_canWalk
  refine T_aload_n (pc := 0) C dX8_canWalk_0 rfl 0 rfl ?_
  refine T_iload_n (pc := 1) C dX8_canWalk_1 rfl 1 rfl ?_
  refine T_iload_n (pc := 2) C dX8_canWalk_2 rfl 2 rfl ?_
  refine T_czVip (pc := 3) zk.1 hZ C [vi x1, vi x2] [] (fun o h9 hw => ct_X8_walkBetween zk σ r0 x1 x2 k0 h1 h2 hw o h9) kc_150 cm_X8_walkBetween (rcc k0 (by decide) (fun _ => rfl) rfl) rfl rfl (Nat.le_of_ble_eq_true rfl) (by decide) (a' := 0) (b' := 0) ⟨rfl, rfl⟩ dX8_canWalk_3 (fun v1 hv1 => ?_)
  refine T_if_le (pc := 6) C 31 dX8_canWalk_6 rfl hv1.1 (fun c2 => ?_) (fun c2 => ?_)
  · refine T_iconst (pc := 31) C dX8_canWalk_31 ?_
    exact T_iret (pc := 32) 0 (fun h9 => h9) (rngL rfl) (nar_Z (Or.inl rfl)) (by decide) dX8_canWalk_32
  · refine T_aload_n (pc := 9) C dX8_canWalk_9 rfl 0 rfl ?_
    refine Tc_getr (pc := 10) C r0 8 4 10 k0 (by decide) (fun _ => rfl) rfl inX8 (by decide) (v := .ref (ad (r0 + 2))) rfl kc_151 dX8_canWalk_10 ?_
    refine T_iload_n (pc := 13) C dX8_canWalk_13 rfl 1 rfl ?_
    refine T_guard (fun g3 => ?_)
    refine Tc_zald (pc := 14) C (r0 + 2) x1.toNat (kd_8 k0).2.1 g3 rfl dX8_canWalk_14 (fun z4 => ?_)
    refine T_if_ne (pc := 15) C 31 dX8_canWalk_15 rfl (bit_rng z4) (fun c5 => ?_) (fun c5 => ?_)
    · refine T_iconst (pc := 31) C dX8_canWalk_31 ?_
      exact T_iret (pc := 32) 0 (fun h9 => h9) (rngL rfl) (nar_Z (Or.inl rfl)) (by decide) dX8_canWalk_32
    · refine T_aload_n (pc := 18) C dX8_canWalk_18 rfl 0 rfl ?_
      refine Tc_getr (pc := 19) C r0 8 4 10 k0 (by decide) (fun _ => rfl) rfl inX8 (by decide) (v := .ref (ad (r0 + 2))) rfl kc_151 dX8_canWalk_19 ?_
      refine T_iload_n (pc := 22) C dX8_canWalk_22 rfl 2 rfl ?_
      refine T_guard (fun g6 => ?_)
      refine Tc_zald (pc := 23) C (r0 + 2) x2.toNat (kd_8 k0).2.1 g6 rfl dX8_canWalk_23 (fun z7 => ?_)
      refine T_if_ne (pc := 24) C 31 dX8_canWalk_24 rfl (bit_rng z7) (fun c8 => ?_) (fun c8 => ?_)
      · refine T_iconst (pc := 31) C dX8_canWalk_31 ?_
        exact T_iret (pc := 32) 0 (fun h9 => h9) (rngL rfl) (nar_Z (Or.inl rfl)) (by decide) dX8_canWalk_32
      · refine T_iconst (pc := 27) C dX8_canWalk_27 ?_
        refine T_goto (pc := 28) C 32 dX8_canWalk_28 rfl ?_
        exact T_iret (pc := 32) 1 (fun h9 => h9) (rngL rfl) (nar_Z (Or.inr rfl)) (by decide) dX8_canWalk_32

abbrev rm_X1_walkOn : Room := ⟨2, 0, 0, 45⟩
theorem cm_X1_walkOn : cmV yX1_walkOn cX1_walkOn 6 (some .boolean) 2 := ⟨kc_4, kc_99, ⟨by decide +kernel, by decide +kernel, by decide +kernel⟩, kc_157, kc_158⟩
def f_X1_walkOn_5 (r0 : Nat) (r1 : Nat) (x2 : Int) : Nat → Sm → Int → Int → Option (Sm × Int)
  | 0, _, _, _ => none
  | n + 1, s0, x3, x4 => if 0 ≤ x2 ∧ x2 < 10 then (if 1000000000 ≤ (s0 (r0 + 1) x2.toNat) then some (s0, x3) else (if (s0 r1 2) ≤ x4 then some (s0, x3) else (f_X8_canWalk s0 r1 x2 x4).bind fun v13 => (if v13 = 0 then f_X1_walkOn_5 r0 r1 x2 n s0 x3 (x4 + 1) else (f_X8_walkBetween s0 r1 x2 x4).bind fun v16 => bl ((s0 (r0 + 1) x2.toNat) + v16) fun v17 => if rng v17 then (f_X1_reach s0 r0 x4 v17 v17).bind fun v19 => (if v19.2 = 0 then (if x3 = 0 then f_X1_walkOn_5 r0 r1 x2 n v19.1 0 (x4 + 1) else f_X1_walkOn_5 r0 r1 x2 n v19.1 1 (x4 + 1)) else f_X1_walkOn_5 r0 r1 x2 n v19.1 1 (x4 + 1)) else none))) else none
theorem lp_X1_walkOn_5 {X : vjX} {A : Nat → Prop} {Q : State → Prop} {cy : Nat → ClassId} {ad : Nat → Nat} {E : Nat → Nat → Nat} {G : va_G} {Z : vZ} (zk : Zk Z E) (hZ : Zx Z X (Yc cy ad E G A 6 Q)) (C : Cx X (Yc cy ad E G A 6 Q) cX1_walkOn RX1 (some .boolean) rm_X1_walkOn (tyc cy)) (r0 : Nat) (r1 : Nat) (k0 : kd r0 = 1) (k1 : kd r1 = 8) (x2 : Int) (h2 : rng x2) : ∀ (n : Nat) (s0 : Sm) (x3 : Int) (x4 : Int) (h3 : bit x3) (h4 : rng x4), T X (Yc cy ad E G A 6 Q) (fun (q : Sm × Int) => bit q.2 → J X (Yc cy ad E G A 6 Q) 0 0 80 [(3, vi q.2)] [] q.1) 0 0 5 [(0, .ref (ad r0)), (1, .ref (ad r1)), (2, vi x2), (3, vi x3), (4, vi x4)] [] s0 (f_X1_walkOn_5 r0 r1 x2 n s0 x3 x4) := by
  intro n
  induction n with
  | zero => intro s0 x3 x4 h3 h4; exact T_none
  | succ n ih =>
    intro s0 x3 x4 h3 h4
    rw [f_X1_walkOn_5]
    refine T_aload_n (pc := 5) C dX1_walkOn_5 rfl 0 rfl ?_
    refine Tc_getr (pc := 6) C r0 1 0 4 k0 (by decide) (fun _ => rfl) rfl inX1 (by decide) (v := .ref (ad (r0 + 1))) rfl kc_94 dX1_walkOn_6 ?_
    refine T_iload_n (pc := 9) C dX1_walkOn_9 rfl 2 rfl ?_
    refine T_guard (fun g8 => ?_)
    refine Tc_iald (pc := 10) C (r0 + 1) 20 10 x2.toNat (kd_1 k0).1 ⟨by decide, by decide⟩ rfl g8 rfl dX1_walkOn_10 (fun z9 => ?_)
    refine T_ldc (pc := 11) C 1000000000 dX1_walkOn_11 kc_95 (by decide) ?_
    refine T_icmp_ge (pc := 13) C 80 dX1_walkOn_13 rfl z9 (rngL rfl) (fun c10 => ?_) (fun c10 => ?_)
    · refine T_sub (L' := [(3, vi x3)]) [3] rfl ?_
      exact T_exit (fun h9 => h9 h3)
    · refine T_iload (pc := 16) C dX1_walkOn_16 4 rfl ?_
      refine T_aload_n (pc := 18) C dX1_walkOn_18 rfl 1 rfl ?_
      refine Tc_geti (pc := 19) C r1 8 2 10 k1 (by decide) (fun _ => rfl) rfl inX8 (by decide) rfl kc_154 dX1_walkOn_19 (fun z11 => ?_)
      refine T_icmp_ge (pc := 22) C 80 dX1_walkOn_22 rfl h4 z11.1 (fun c12 => ?_) (fun c12 => ?_)
      · refine T_sub (L' := [(3, vi x3)]) [3] rfl ?_
        exact T_exit (fun h9 => h9 h3)
      · refine T_aload_n (pc := 25) C dX1_walkOn_25 rfl 1 rfl ?_
        refine T_iload_n (pc := 26) C dX1_walkOn_26 rfl 2 rfl ?_
        refine T_iload (pc := 27) C dX1_walkOn_27 4 rfl ?_
        refine T_czVip (pc := 29) zk.1 hZ C [vi x2, vi x4] [] (fun o h9 hw => ct_X8_canWalk zk s0 r1 x2 x4 k1 h2 h4 hw o h9) kc_155 cm_X8_canWalk (rcc k1 (by decide) (fun _ => rfl) rfl) rfl rfl (Nat.le_of_ble_eq_true rfl) (by decide) (a' := 0) (b' := 0) ⟨rfl, rfl⟩ dX1_walkOn_29 (fun v13 hv13 => ?_)
        refine T_if_eq (pc := 32) C 74 dX1_walkOn_32 rfl hv13.1 (fun c14 => ?_) (fun c14 => ?_)
        · refine T_iinc (pc := 74) (L' := [(4, vi (x4 + 1)), (0, .ref (ad r0)), (1, .ref (ad r1)), (2, vi x2), (3, vi x3)]) C dX1_walkOn_74 (Nat.le_of_ble_eq_true rfl) 4 rfl rfl ?_
          refine T_goto (pc := 77) C 5 dX1_walkOn_77 rfl ?_
          refine T_sub (L' := [(0, .ref (ad r0)), (1, .ref (ad r1)), (2, vi x2), (3, vi x3), (4, vi (x4 + 1))]) [1, 2, 3, 4, 0] rfl ?_
          exact ih s0 x3 (x4 + 1) h3 (rng_inc c12 h4 z11.1)
        · refine T_aload_n (pc := 35) C dX1_walkOn_35 rfl 0 rfl ?_
          refine Tc_getr (pc := 36) C r0 1 0 4 k0 (by decide) (fun _ => rfl) rfl inX1 (by decide) (v := .ref (ad (r0 + 1))) rfl kc_94 dX1_walkOn_36 ?_
          refine T_iload_n (pc := 39) C dX1_walkOn_39 rfl 2 rfl ?_
          refine Tc_iald (pc := 40) C (r0 + 1) 20 10 x2.toNat (kd_1 k0).1 ⟨by decide, by decide⟩ rfl g8 rfl dX1_walkOn_40 (fun z15 => ?_)
          refine T_aload_n (pc := 41) C dX1_walkOn_41 rfl 1 rfl ?_
          refine T_iload_n (pc := 42) C dX1_walkOn_42 rfl 2 rfl ?_
          refine T_iload (pc := 43) C dX1_walkOn_43 4 rfl ?_
          refine T_czVip (pc := 45) zk.1 hZ C [vi x2, vi x4] [vi (s0 (r0 + 1) x2.toNat)] (fun o h9 hw => ct_X8_walkBetween zk s0 r1 x2 x4 k1 h2 h4 hw o h9) kc_156 cm_X8_walkBetween (rcc k1 (by decide) (fun _ => rfl) rfl) rfl rfl (Nat.le_of_ble_eq_true rfl) (by decide) (a' := 0) (b' := 0) ⟨rfl, rfl⟩ dX1_walkOn_45 (fun v16 hv16 => ?_)
          refine T_iadd (pc := 48) C dX1_walkOn_48 ?_
          refine T_blN (fun v17 => ?_)
          refine T_istore (pc := 49) (L' := [(5, vi v17), (0, .ref (ad r0)), (1, .ref (ad r1)), (2, vi x2), (3, vi x3), (4, vi x4)]) C dX1_walkOn_49 (Nat.le_of_ble_eq_true rfl) rfl ?_
          refine T_aload_n (pc := 51) C dX1_walkOn_51 rfl 1 rfl ?_
          refine T_iload (pc := 52) C dX1_walkOn_52 5 rfl ?_
          refine T_iload (pc := 54) C dX1_walkOn_54 0 rfl ?_
          refine T_iload (pc := 56) C dX1_walkOn_56 0 rfl ?_
          refine T_guard (fun g18 => ?_)
          refine T_czVi (pc := 58) zk.1 hZ C [vi x4, vi v17, vi v17] [] (fun o h9 hw => ct_X1_reach zk s0 r0 x4 v17 v17 k0 h4 g18 g18 hw o h9) kc_131 cm_X1_reach (rcc k0 (by decide) (fun _ => rfl) rfl) rfl rfl (Nat.le_of_ble_eq_true rfl) (by decide) (a' := 0) (b' := 0) ⟨rfl, rfl⟩ dX1_walkOn_58 (fun v19 hv19 => ?_)
          refine T_if_ne (pc := 61) C 68 dX1_walkOn_61 rfl hv19.1 (fun c20 => ?_) (fun c20 => ?_)
          · refine T_iconst (pc := 68) C dX1_walkOn_68 ?_
            refine T_goto (pc := 69) C 73 dX1_walkOn_69 rfl ?_
            refine T_istore_n (pc := 73) (L' := [(3, vi 1), (5, vi v17), (0, .ref (ad r0)), (1, .ref (ad r1)), (2, vi x2), (4, vi x4)]) C dX1_walkOn_73 rfl (Nat.le_of_ble_eq_true rfl) rfl ?_
            refine T_iinc (pc := 74) (L' := [(4, vi (x4 + 1)), (3, vi 1), (5, vi v17), (0, .ref (ad r0)), (1, .ref (ad r1)), (2, vi x2)]) C dX1_walkOn_74 (Nat.le_of_ble_eq_true rfl) 5 rfl rfl ?_
            refine T_goto (pc := 77) C 5 dX1_walkOn_77 rfl ?_
            refine T_sub (L' := [(0, .ref (ad r0)), (1, .ref (ad r1)), (2, vi x2), (3, vi 1), (4, vi (x4 + 1))]) [3, 4, 5, 1, 0] rfl ?_
            exact ih v19.1 1 (x4 + 1) (Or.inr rfl) (rng_inc c12 h4 z11.1)
          · refine T_iload_n (pc := 64) C dX1_walkOn_64 rfl 4 rfl ?_
            refine T_if_eq (pc := 65) C 72 dX1_walkOn_65 rfl (bit_rng h3) (fun c21 => ?_) (fun c21 => ?_)
            · refine T_iconst (pc := 72) C dX1_walkOn_72 ?_
              refine T_istore_n (pc := 73) (L' := [(3, vi 0), (5, vi v17), (0, .ref (ad r0)), (1, .ref (ad r1)), (2, vi x2), (4, vi x4)]) C dX1_walkOn_73 rfl (Nat.le_of_ble_eq_true rfl) rfl ?_
              refine T_iinc (pc := 74) (L' := [(4, vi (x4 + 1)), (3, vi 0), (5, vi v17), (0, .ref (ad r0)), (1, .ref (ad r1)), (2, vi x2)]) C dX1_walkOn_74 (Nat.le_of_ble_eq_true rfl) 5 rfl rfl ?_
              refine T_goto (pc := 77) C 5 dX1_walkOn_77 rfl ?_
              refine T_sub (L' := [(0, .ref (ad r0)), (1, .ref (ad r1)), (2, vi x2), (3, vi 0), (4, vi (x4 + 1))]) [3, 4, 5, 1, 0] rfl ?_
              exact ih v19.1 0 (x4 + 1) (Or.inl rfl) (rng_inc c12 h4 z11.1)
            · refine T_iconst (pc := 68) C dX1_walkOn_68 ?_
              refine T_goto (pc := 69) C 73 dX1_walkOn_69 rfl ?_
              refine T_istore_n (pc := 73) (L' := [(3, vi 1), (5, vi v17), (0, .ref (ad r0)), (1, .ref (ad r1)), (2, vi x2), (4, vi x4)]) C dX1_walkOn_73 rfl (Nat.le_of_ble_eq_true rfl) rfl ?_
              refine T_iinc (pc := 74) (L' := [(4, vi (x4 + 1)), (3, vi 1), (5, vi v17), (0, .ref (ad r0)), (1, .ref (ad r1)), (2, vi x2)]) C dX1_walkOn_74 (Nat.le_of_ble_eq_true rfl) 5 rfl rfl ?_
              refine T_goto (pc := 77) C 5 dX1_walkOn_77 rfl ?_
              refine T_sub (L' := [(0, .ref (ad r0)), (1, .ref (ad r1)), (2, vi x2), (3, vi 1), (4, vi (x4 + 1))]) [3, 4, 5, 1, 0] rfl ?_
              exact ih v19.1 1 (x4 + 1) (Or.inr rfl) (rng_inc c12 h4 z11.1)
def f_X1_walkOn (N : Nat) (σ : Sm) (r0 : Nat) (r1 : Nat) (x2 : Int) : Option (Sm × Int) :=
  (f_X1_walkOn_5 r0 r1 x2 N σ 0 0).bind fun q22 => some (q22.1, q22.2)
theorem ct_X1_walkOn {l : Launch} {cy : Nat → ClassId} {ad : Nat → Nat} {E : Nat → Nat → Nat} {G : va_G} {Z : vZ} (zk : Zk Z E) (N : Nat) (σ : Sm) (r0 : Nat) (r1 : Nat) (x2 : Int) (k0 : kd r0 = 1) (k1 : kd r1 = 8) (h2 : rng x2) (hw : wfc σ) (o : Sm × Int) (h : f_X1_walkOn N σ r0 r1 x2 = some o) : CzI Z l yX1_walkOn cX1_walkOn 6 (some .boolean) rm_X1_walkOn (wlc cy ad E) wfc G (tyc cy) [.ref (ad r0), .ref (ad r1), vi x2] σ o.1 o.2 := by
  refine czI_of zk.1 (plainFor_of_name (by decide)) (Nat.le_of_ble_eq_true rfl) hw o o h (fun X Y w => EndI X Y cX1_walkOn rm_X1_walkOn .boolean w) (fun _ _ h => h) (fun X A Q hZ hX C => ?_)
  replace C : Cx X (Yc cy ad E G A 6 Q) cX1_walkOn RX1 (some .boolean) rm_X1_walkOn (tyc cy) := C
  replace hZ : Zx Z X (Yc cy ad E G A 6 Q) := hZ
  show T X (Yc cy ad E G A 6 Q) (fun w => EndI X (Yc cy ad E G A 6 Q) cX1_walkOn rm_X1_walkOn .boolean w) 0 0 0 [(0, .ref (ad r0)), (1, .ref (ad r1)), (2, vi x2)] [] σ (f_X1_walkOn N σ r0 r1 x2)
  unfold f_X1_walkOn
  refine T_iconst (pc := 0) C dX1_walkOn_0 ?_
  refine T_istore_n (pc := 1) (L' := [(3, vi 0), (0, .ref (ad r0)), (1, .ref (ad r1)), (2, vi x2)]) C dX1_walkOn_1 rfl (Nat.le_of_ble_eq_true rfl) rfl ?_
  refine T_iconst (pc := 2) C dX1_walkOn_2 ?_
  refine T_istore (pc := 3) (L' := [(4, vi 0), (3, vi 0), (0, .ref (ad r0)), (1, .ref (ad r1)), (2, vi x2)]) C dX1_walkOn_3 (Nat.le_of_ble_eq_true rfl) rfl ?_
  refine T_sub (L' := [(0, .ref (ad r0)), (1, .ref (ad r1)), (2, vi x2), (3, vi 0), (4, vi 0)]) [2, 3, 4, 1, 0] rfl ?_
  refine T_loopE (lp_X1_walkOn_5 zk hZ C r0 r1 k0 k1 x2 h2 N σ 0 0 (Or.inl rfl) (rngL rfl)) (fun q22 hq22 => ?_)
  refine T_iload_n (pc := 80) C dX1_walkOn_80 rfl 0 rfl ?_
  exact T_iret (pc := 81) (q22.1, q22.2) (fun h9 => h9) (bit_rng hq22) (nar_Z hq22) (by decide) dX1_walkOn_81

abbrev rm_X1_searchEarliest : Room := ⟨4, 0, 0, 100⟩
theorem cm_X1_searchEarliest : cmV yX1_searchEarliest cX1_searchEarliest 7 none 3 := ⟨kc_1, kc_99, ⟨by decide +kernel, by decide +kernel, by decide +kernel⟩, kc_163, kc_164⟩
def f_X1_searchEarliest_9 (N : Nat) (r0 : Nat) (r1 : Nat) : Nat → Sm → Int → Option (Sm ⊕ Sm)
  | 0, _, _ => none
  | n + 1, s0, x4 => (if 20 ≤ x4 then some (.inr s0) else (f_X1_earliest N s0 (r0 + 1) 20 (r0 + 3) (s0 r1 2)).bind fun v14 => (f_X1_earliest N s0 (r0 + 2) 20 (r0 + 4) (s0 r1 2)).bind fun v16 => (if v14 = (-1) then (if v16 = (-1) then some (.inl s0) else (if v16 = (-1) then if 0 ≤ v14 ∧ v14 < 10 then bl (upm s0 (r0 + 3) v14.toNat 1) fun s38 => (f_X1_walkOn N s38 r0 r1 v14).bind fun v39 => f_X1_searchEarliest_9 N r0 r1 n v39.1 (x4 + 1) else none else (if v14 = (-1) then if 0 ≤ v16 ∧ v16 < 10 then bl (upm s0 (r0 + 4) v16.toNat 1) fun s42 => (f_X1_rideOn N s42 r0 r1 v16).bind fun v43 => f_X1_searchEarliest_9 N r0 r1 n v43.1 (x4 + 1) else none else if 0 ≤ v14 ∧ v14 < 10 then if 0 ≤ v16 ∧ v16 < 10 then (if (s0 (r0 + 2) v16.toNat) < (s0 (r0 + 1) v14.toNat) then bl (upm s0 (r0 + 4) v16.toNat 1) fun s49 => (f_X1_rideOn N s49 r0 r1 v16).bind fun v50 => f_X1_searchEarliest_9 N r0 r1 n v50.1 (x4 + 1) else bl (upm s0 (r0 + 3) v14.toNat 1) fun s51 => (f_X1_walkOn N s51 r0 r1 v14).bind fun v52 => f_X1_searchEarliest_9 N r0 r1 n v52.1 (x4 + 1)) else none else none))) else (if v16 = (-1) then if 0 ≤ v14 ∧ v14 < 10 then bl (upm s0 (r0 + 3) v14.toNat 1) fun s20 => (f_X1_walkOn N s20 r0 r1 v14).bind fun v21 => f_X1_searchEarliest_9 N r0 r1 n v21.1 (x4 + 1) else none else (if v14 = (-1) then if 0 ≤ v16 ∧ v16 < 10 then bl (upm s0 (r0 + 4) v16.toNat 1) fun s24 => (f_X1_rideOn N s24 r0 r1 v16).bind fun v25 => f_X1_searchEarliest_9 N r0 r1 n v25.1 (x4 + 1) else none else if 0 ≤ v14 ∧ v14 < 10 then if 0 ≤ v16 ∧ v16 < 10 then (if (s0 (r0 + 2) v16.toNat) < (s0 (r0 + 1) v14.toNat) then bl (upm s0 (r0 + 4) v16.toNat 1) fun s31 => (f_X1_rideOn N s31 r0 r1 v16).bind fun v32 => f_X1_searchEarliest_9 N r0 r1 n v32.1 (x4 + 1) else bl (upm s0 (r0 + 3) v14.toNat 1) fun s33 => (f_X1_walkOn N s33 r0 r1 v14).bind fun v34 => f_X1_searchEarliest_9 N r0 r1 n v34.1 (x4 + 1)) else none else none))))
theorem lp_X1_searchEarliest_9 {X : vjX} {A : Nat → Prop} {Q : State → Prop} {cy : Nat → ClassId} {ad : Nat → Nat} {E : Nat → Nat → Nat} {G : va_G} {Z : vZ} (zk : Zk Z E) (hZ : Zx Z X (Yc cy ad E G A 7 Q)) (C : Cx X (Yc cy ad E G A 7 Q) cX1_searchEarliest RX1 none rm_X1_searchEarliest (tyc cy)) (N : Nat) (r0 : Nat) (r1 : Nat) (k0 : kd r0 = 1) (k1 : kd r1 = 8) : ∀ (n : Nat) (s0 : Sm) (x4 : Int) (h4 : rng x4), T X (Yc cy ad E G A 7 Q) (Sum.elim (fun w => EndV X (Yc cy ad E G A 7 Q) cX1_searchEarliest rm_X1_searchEarliest w) (fun (q : Sm) => True → J X (Yc cy ad E G A 7 Q) 0 0 133 [] [] q)) 0 0 9 [(0, .ref (ad r0)), (1, .ref (ad r1)), (4, vi x4)] [] s0 (f_X1_searchEarliest_9 N r0 r1 n s0 x4) := by
  intro n
  induction n with
  | zero => intro s0 x4 h4; exact T_none
  | succ n ih =>
    intro s0 x4 h4
    rw [f_X1_searchEarliest_9]
    refine T_iload (pc := 9) C dX1_searchEarliest_9 2 rfl ?_
    refine T_bipush (pc := 11) C dX1_searchEarliest_11 (by decide) ?_
    refine T_icmp_ge (pc := 13) C 133 dX1_searchEarliest_13 rfl h4 (rngL rfl) (fun c12 => ?_) (fun c12 => ?_)
    · refine T_sub (L' := []) [] rfl ?_
      exact T_exit (fun h9 => h9 trivial)
    · refine T_aload_n (pc := 16) C dX1_searchEarliest_16 rfl 0 rfl ?_
      refine Tc_getr (pc := 17) C r0 1 0 4 k0 (by decide) (fun _ => rfl) rfl inX1 (by decide) (v := .ref (ad (r0 + 1))) rfl kc_94 dX1_searchEarliest_17 ?_
      refine T_aload_n (pc := 20) C dX1_searchEarliest_20 rfl 0 rfl ?_
      refine Tc_getr (pc := 21) C r0 1 2 4 k0 (by decide) (fun _ => rfl) rfl inX1 (by decide) (v := .ref (ad (r0 + 3))) rfl kc_97 dX1_searchEarliest_21 ?_
      refine T_aload_n (pc := 24) C dX1_searchEarliest_24 rfl 1 rfl ?_
      refine Tc_geti (pc := 25) C r1 8 2 10 k1 (by decide) (fun _ => rfl) rfl inX8 (by decide) rfl kc_154 dX1_searchEarliest_25 (fun z13 => ?_)
      refine T_czSip (pc := 28) zk.1 hZ C [.ref (ad (r0 + 1)), .ref (ad (r0 + 3)), vi (s0 r1 2)] [] (fun o h9 hw => ct_X1_earliest zk N s0 (r0 + 1) 20 (r0 + 3) (s0 r1 2) (kd_1 k0).1 ⟨by decide, by decide⟩ (kd_1 k0).2.2.1 z13.1 hw o h9) kc_160 cm_X1_earliest rfl rfl (Nat.le_of_ble_eq_true rfl) (by decide) (a' := 0) (b' := 0) ⟨rfl, rfl⟩ dX1_searchEarliest_28 (fun v14 hv14 => ?_)
      refine T_istore (pc := 31) (L' := [(5, vi v14), (0, .ref (ad r0)), (1, .ref (ad r1)), (4, vi x4)]) C dX1_searchEarliest_31 (Nat.le_of_ble_eq_true rfl) rfl ?_
      refine T_aload_n (pc := 33) C dX1_searchEarliest_33 rfl 1 rfl ?_
      refine Tc_getr (pc := 34) C r0 1 1 4 k0 (by decide) (fun _ => rfl) rfl inX1 (by decide) (v := .ref (ad (r0 + 2))) rfl kc_96 dX1_searchEarliest_34 ?_
      refine T_aload_n (pc := 37) C dX1_searchEarliest_37 rfl 1 rfl ?_
      refine Tc_getr (pc := 38) C r0 1 3 4 k0 (by decide) (fun _ => rfl) rfl inX1 (by decide) (v := .ref (ad (r0 + 4))) rfl kc_98 dX1_searchEarliest_38 ?_
      refine T_aload_n (pc := 41) C dX1_searchEarliest_41 rfl 2 rfl ?_
      refine Tc_geti (pc := 42) C r1 8 2 10 k1 (by decide) (fun _ => rfl) rfl inX8 (by decide) rfl kc_154 dX1_searchEarliest_42 (fun z15 => ?_)
      refine T_czSip (pc := 45) zk.1 hZ C [.ref (ad (r0 + 2)), .ref (ad (r0 + 4)), vi (s0 r1 2)] [] (fun o h9 hw => ct_X1_earliest zk N s0 (r0 + 2) 20 (r0 + 4) (s0 r1 2) (kd_1 k0).2.1 ⟨by decide, by decide⟩ (kd_1 k0).2.2.2 z15.1 hw o h9) kc_160 cm_X1_earliest rfl rfl (Nat.le_of_ble_eq_true rfl) (by decide) (a' := 0) (b' := 0) ⟨rfl, rfl⟩ dX1_searchEarliest_45 (fun v16 hv16 => ?_)
      refine T_istore (pc := 48) (L' := [(6, vi v16), (5, vi v14), (0, .ref (ad r0)), (1, .ref (ad r1)), (4, vi x4)]) C dX1_searchEarliest_48 (Nat.le_of_ble_eq_true rfl) rfl ?_
      refine T_iload (pc := 50) C dX1_searchEarliest_50 1 rfl ?_
      refine T_iconst (pc := 52) C dX1_searchEarliest_52 ?_
      refine T_icmp_ne (pc := 53) C 63 dX1_searchEarliest_53 rfl hv14.1 (rngL rfl) (fun c17 => ?_) (fun c17 => ?_)
      · refine T_iload (pc := 63) C dX1_searchEarliest_63 0 rfl ?_
        refine T_iconst (pc := 65) C dX1_searchEarliest_65 ?_
        refine T_icmp_eq (pc := 66) C 92 dX1_searchEarliest_66 rfl hv16.1 (rngL rfl) (fun c18 => ?_) (fun c18 => ?_)
        · refine T_aload_n (pc := 92) C dX1_searchEarliest_92 rfl 2 rfl ?_
          refine Tc_getr (pc := 93) C r0 1 2 4 k0 (by decide) (fun _ => rfl) rfl inX1 (by decide) (v := .ref (ad (r0 + 3))) rfl kc_97 dX1_searchEarliest_93 ?_
          refine T_iload (pc := 96) C dX1_searchEarliest_96 1 rfl ?_
          refine T_iconst (pc := 98) C dX1_searchEarliest_98 ?_
          refine T_guard (fun g19 => ?_)
          refine Tc_zast (pc := 99) C (r0 + 3) v14.toNat (kd_1 k0).2.2.1 g19 rfl (Or.inr rfl) dX1_searchEarliest_99 ?_
          refine T_blS (fun s20 => ?_)
          refine T_aload_n (pc := 100) C dX1_searchEarliest_100 rfl 2 rfl ?_
          refine T_aload_n (pc := 101) C dX1_searchEarliest_101 rfl 3 rfl ?_
          refine T_iload (pc := 102) C dX1_searchEarliest_102 1 rfl ?_
          refine T_czVi (pc := 104) zk.1 hZ C [.ref (ad r1), vi v14] [] (fun o h9 hw => ct_X1_walkOn zk N s20 r0 r1 v14 k0 k1 hv14.1 hw o h9) kc_161 cm_X1_walkOn (rcc k0 (by decide) (fun _ => rfl) rfl) rfl rfl (Nat.le_of_ble_eq_true rfl) (by decide) (a' := 0) (b' := 0) ⟨rfl, rfl⟩ dX1_searchEarliest_104 (fun v21 hv21 => ?_)
          refine T_pop (pc := 107) C dX1_searchEarliest_107 rfl ?_
          refine T_goto (pc := 108) C 127 dX1_searchEarliest_108 rfl ?_
          refine T_iinc (pc := 127) (L' := [(4, vi (x4 + 1)), (6, vi v16), (5, vi v14), (0, .ref (ad r0)), (1, .ref (ad r1))]) C dX1_searchEarliest_127 (Nat.le_of_ble_eq_true rfl) 4 rfl rfl ?_
          refine T_goto (pc := 130) C 9 dX1_searchEarliest_130 rfl ?_
          refine T_sub (L' := [(0, .ref (ad r0)), (1, .ref (ad r1)), (4, vi (x4 + 1))]) [3, 4, 0] rfl ?_
          exact ih v21.1 (x4 + 1) (rng_inc c12 h4 (rngL rfl))
        · refine T_iload (pc := 69) C dX1_searchEarliest_69 1 rfl ?_
          refine T_iconst (pc := 71) C dX1_searchEarliest_71 ?_
          refine T_icmp_eq (pc := 72) C 111 dX1_searchEarliest_72 rfl hv14.1 (rngL rfl) (fun c22 => ?_) (fun c22 => ?_)
          · refine T_aload_n (pc := 111) C dX1_searchEarliest_111 rfl 2 rfl ?_
            refine Tc_getr (pc := 112) C r0 1 3 4 k0 (by decide) (fun _ => rfl) rfl inX1 (by decide) (v := .ref (ad (r0 + 4))) rfl kc_98 dX1_searchEarliest_112 ?_
            refine T_iload (pc := 115) C dX1_searchEarliest_115 0 rfl ?_
            refine T_iconst (pc := 117) C dX1_searchEarliest_117 ?_
            refine T_guard (fun g23 => ?_)
            refine Tc_zast (pc := 118) C (r0 + 4) v16.toNat (kd_1 k0).2.2.2 g23 rfl (Or.inr rfl) dX1_searchEarliest_118 ?_
            refine T_blS (fun s24 => ?_)
            refine T_aload_n (pc := 119) C dX1_searchEarliest_119 rfl 2 rfl ?_
            refine T_aload_n (pc := 120) C dX1_searchEarliest_120 rfl 3 rfl ?_
            refine T_iload (pc := 121) C dX1_searchEarliest_121 0 rfl ?_
            refine T_czVi (pc := 123) zk.1 hZ C [.ref (ad r1), vi v16] [] (fun o h9 hw => ct_X1_rideOn zk N s24 r0 r1 v16 k0 k1 hv16.1 hw o h9) kc_162 cm_X1_rideOn (rcc k0 (by decide) (fun _ => rfl) rfl) rfl rfl (Nat.le_of_ble_eq_true rfl) (by decide) (a' := 0) (b' := 0) ⟨rfl, rfl⟩ dX1_searchEarliest_123 (fun v25 hv25 => ?_)
            refine T_pop (pc := 126) C dX1_searchEarliest_126 rfl ?_
            refine T_iinc (pc := 127) (L' := [(4, vi (x4 + 1)), (6, vi v16), (5, vi v14), (0, .ref (ad r0)), (1, .ref (ad r1))]) C dX1_searchEarliest_127 (Nat.le_of_ble_eq_true rfl) 4 rfl rfl ?_
            refine T_goto (pc := 130) C 9 dX1_searchEarliest_130 rfl ?_
            refine T_sub (L' := [(0, .ref (ad r0)), (1, .ref (ad r1)), (4, vi (x4 + 1))]) [3, 4, 0] rfl ?_
            exact ih v25.1 (x4 + 1) (rng_inc c12 h4 (rngL rfl))
          · refine T_aload_n (pc := 75) C dX1_searchEarliest_75 rfl 2 rfl ?_
            refine Tc_getr (pc := 76) C r0 1 0 4 k0 (by decide) (fun _ => rfl) rfl inX1 (by decide) (v := .ref (ad (r0 + 1))) rfl kc_94 dX1_searchEarliest_76 ?_
            refine T_iload (pc := 79) C dX1_searchEarliest_79 1 rfl ?_
            refine T_guard (fun g26 => ?_)
            refine Tc_iald (pc := 81) C (r0 + 1) 20 10 v14.toNat (kd_1 k0).1 ⟨by decide, by decide⟩ rfl g26 rfl dX1_searchEarliest_81 (fun z27 => ?_)
            refine T_aload_n (pc := 82) C dX1_searchEarliest_82 rfl 2 rfl ?_
            refine Tc_getr (pc := 83) C r0 1 1 4 k0 (by decide) (fun _ => rfl) rfl inX1 (by decide) (v := .ref (ad (r0 + 2))) rfl kc_96 dX1_searchEarliest_83 ?_
            refine T_iload (pc := 86) C dX1_searchEarliest_86 0 rfl ?_
            refine T_guard (fun g28 => ?_)
            refine Tc_iald (pc := 88) C (r0 + 2) 20 10 v16.toNat (kd_1 k0).2.1 ⟨by decide, by decide⟩ rfl g28 rfl dX1_searchEarliest_88 (fun z29 => ?_)
            refine T_icmp_gt (pc := 89) C 111 dX1_searchEarliest_89 rfl z27 z29 (fun c30 => ?_) (fun c30 => ?_)
            · refine T_aload_n (pc := 111) C dX1_searchEarliest_111 rfl 2 rfl ?_
              refine Tc_getr (pc := 112) C r0 1 3 4 k0 (by decide) (fun _ => rfl) rfl inX1 (by decide) (v := .ref (ad (r0 + 4))) rfl kc_98 dX1_searchEarliest_112 ?_
              refine T_iload (pc := 115) C dX1_searchEarliest_115 0 rfl ?_
              refine T_iconst (pc := 117) C dX1_searchEarliest_117 ?_
              refine Tc_zast (pc := 118) C (r0 + 4) v16.toNat (kd_1 k0).2.2.2 g28 rfl (Or.inr rfl) dX1_searchEarliest_118 ?_
              refine T_blS (fun s31 => ?_)
              refine T_aload_n (pc := 119) C dX1_searchEarliest_119 rfl 2 rfl ?_
              refine T_aload_n (pc := 120) C dX1_searchEarliest_120 rfl 3 rfl ?_
              refine T_iload (pc := 121) C dX1_searchEarliest_121 0 rfl ?_
              refine T_czVi (pc := 123) zk.1 hZ C [.ref (ad r1), vi v16] [] (fun o h9 hw => ct_X1_rideOn zk N s31 r0 r1 v16 k0 k1 hv16.1 hw o h9) kc_162 cm_X1_rideOn (rcc k0 (by decide) (fun _ => rfl) rfl) rfl rfl (Nat.le_of_ble_eq_true rfl) (by decide) (a' := 0) (b' := 0) ⟨rfl, rfl⟩ dX1_searchEarliest_123 (fun v32 hv32 => ?_)
              refine T_pop (pc := 126) C dX1_searchEarliest_126 rfl ?_
              refine T_iinc (pc := 127) (L' := [(4, vi (x4 + 1)), (6, vi v16), (5, vi v14), (0, .ref (ad r0)), (1, .ref (ad r1))]) C dX1_searchEarliest_127 (Nat.le_of_ble_eq_true rfl) 4 rfl rfl ?_
              refine T_goto (pc := 130) C 9 dX1_searchEarliest_130 rfl ?_
              refine T_sub (L' := [(0, .ref (ad r0)), (1, .ref (ad r1)), (4, vi (x4 + 1))]) [3, 4, 0] rfl ?_
              exact ih v32.1 (x4 + 1) (rng_inc c12 h4 (rngL rfl))
            · refine T_aload_n (pc := 92) C dX1_searchEarliest_92 rfl 2 rfl ?_
              refine Tc_getr (pc := 93) C r0 1 2 4 k0 (by decide) (fun _ => rfl) rfl inX1 (by decide) (v := .ref (ad (r0 + 3))) rfl kc_97 dX1_searchEarliest_93 ?_
              refine T_iload (pc := 96) C dX1_searchEarliest_96 1 rfl ?_
              refine T_iconst (pc := 98) C dX1_searchEarliest_98 ?_
              refine Tc_zast (pc := 99) C (r0 + 3) v14.toNat (kd_1 k0).2.2.1 g26 rfl (Or.inr rfl) dX1_searchEarliest_99 ?_
              refine T_blS (fun s33 => ?_)
              refine T_aload_n (pc := 100) C dX1_searchEarliest_100 rfl 2 rfl ?_
              refine T_aload_n (pc := 101) C dX1_searchEarliest_101 rfl 3 rfl ?_
              refine T_iload (pc := 102) C dX1_searchEarliest_102 1 rfl ?_
              refine T_czVi (pc := 104) zk.1 hZ C [.ref (ad r1), vi v14] [] (fun o h9 hw => ct_X1_walkOn zk N s33 r0 r1 v14 k0 k1 hv14.1 hw o h9) kc_161 cm_X1_walkOn (rcc k0 (by decide) (fun _ => rfl) rfl) rfl rfl (Nat.le_of_ble_eq_true rfl) (by decide) (a' := 0) (b' := 0) ⟨rfl, rfl⟩ dX1_searchEarliest_104 (fun v34 hv34 => ?_)
              refine T_pop (pc := 107) C dX1_searchEarliest_107 rfl ?_
              refine T_goto (pc := 108) C 127 dX1_searchEarliest_108 rfl ?_
              refine T_iinc (pc := 127) (L' := [(4, vi (x4 + 1)), (6, vi v16), (5, vi v14), (0, .ref (ad r0)), (1, .ref (ad r1))]) C dX1_searchEarliest_127 (Nat.le_of_ble_eq_true rfl) 4 rfl rfl ?_
              refine T_goto (pc := 130) C 9 dX1_searchEarliest_130 rfl ?_
              refine T_sub (L' := [(0, .ref (ad r0)), (1, .ref (ad r1)), (4, vi (x4 + 1))]) [3, 4, 0] rfl ?_
              exact ih v34.1 (x4 + 1) (rng_inc c12 h4 (rngL rfl))
      · refine T_iload (pc := 56) C dX1_searchEarliest_56 0 rfl ?_
        refine T_iconst (pc := 58) C dX1_searchEarliest_58 ?_
        refine T_icmp_ne (pc := 59) C 63 dX1_searchEarliest_59 rfl hv16.1 (rngL rfl) (fun c35 => ?_) (fun c35 => ?_)
        · refine T_iload (pc := 63) C dX1_searchEarliest_63 0 rfl ?_
          refine T_iconst (pc := 65) C dX1_searchEarliest_65 ?_
          refine T_icmp_eq (pc := 66) C 92 dX1_searchEarliest_66 rfl hv16.1 (rngL rfl) (fun c36 => ?_) (fun c36 => ?_)
          · refine T_aload_n (pc := 92) C dX1_searchEarliest_92 rfl 2 rfl ?_
            refine Tc_getr (pc := 93) C r0 1 2 4 k0 (by decide) (fun _ => rfl) rfl inX1 (by decide) (v := .ref (ad (r0 + 3))) rfl kc_97 dX1_searchEarliest_93 ?_
            refine T_iload (pc := 96) C dX1_searchEarliest_96 1 rfl ?_
            refine T_iconst (pc := 98) C dX1_searchEarliest_98 ?_
            refine T_guard (fun g37 => ?_)
            refine Tc_zast (pc := 99) C (r0 + 3) v14.toNat (kd_1 k0).2.2.1 g37 rfl (Or.inr rfl) dX1_searchEarliest_99 ?_
            refine T_blS (fun s38 => ?_)
            refine T_aload_n (pc := 100) C dX1_searchEarliest_100 rfl 2 rfl ?_
            refine T_aload_n (pc := 101) C dX1_searchEarliest_101 rfl 3 rfl ?_
            refine T_iload (pc := 102) C dX1_searchEarliest_102 1 rfl ?_
            refine T_czVi (pc := 104) zk.1 hZ C [.ref (ad r1), vi v14] [] (fun o h9 hw => ct_X1_walkOn zk N s38 r0 r1 v14 k0 k1 hv14.1 hw o h9) kc_161 cm_X1_walkOn (rcc k0 (by decide) (fun _ => rfl) rfl) rfl rfl (Nat.le_of_ble_eq_true rfl) (by decide) (a' := 0) (b' := 0) ⟨rfl, rfl⟩ dX1_searchEarliest_104 (fun v39 hv39 => ?_)
            refine T_pop (pc := 107) C dX1_searchEarliest_107 rfl ?_
            refine T_goto (pc := 108) C 127 dX1_searchEarliest_108 rfl ?_
            refine T_iinc (pc := 127) (L' := [(4, vi (x4 + 1)), (6, vi v16), (5, vi v14), (0, .ref (ad r0)), (1, .ref (ad r1))]) C dX1_searchEarliest_127 (Nat.le_of_ble_eq_true rfl) 4 rfl rfl ?_
            refine T_goto (pc := 130) C 9 dX1_searchEarliest_130 rfl ?_
            refine T_sub (L' := [(0, .ref (ad r0)), (1, .ref (ad r1)), (4, vi (x4 + 1))]) [3, 4, 0] rfl ?_
            exact ih v39.1 (x4 + 1) (rng_inc c12 h4 (rngL rfl))
          · refine T_iload (pc := 69) C dX1_searchEarliest_69 1 rfl ?_
            refine T_iconst (pc := 71) C dX1_searchEarliest_71 ?_
            refine T_icmp_eq (pc := 72) C 111 dX1_searchEarliest_72 rfl hv14.1 (rngL rfl) (fun c40 => ?_) (fun c40 => ?_)
            · refine T_aload_n (pc := 111) C dX1_searchEarliest_111 rfl 2 rfl ?_
              refine Tc_getr (pc := 112) C r0 1 3 4 k0 (by decide) (fun _ => rfl) rfl inX1 (by decide) (v := .ref (ad (r0 + 4))) rfl kc_98 dX1_searchEarliest_112 ?_
              refine T_iload (pc := 115) C dX1_searchEarliest_115 0 rfl ?_
              refine T_iconst (pc := 117) C dX1_searchEarliest_117 ?_
              refine T_guard (fun g41 => ?_)
              refine Tc_zast (pc := 118) C (r0 + 4) v16.toNat (kd_1 k0).2.2.2 g41 rfl (Or.inr rfl) dX1_searchEarliest_118 ?_
              refine T_blS (fun s42 => ?_)
              refine T_aload_n (pc := 119) C dX1_searchEarliest_119 rfl 2 rfl ?_
              refine T_aload_n (pc := 120) C dX1_searchEarliest_120 rfl 3 rfl ?_
              refine T_iload (pc := 121) C dX1_searchEarliest_121 0 rfl ?_
              refine T_czVi (pc := 123) zk.1 hZ C [.ref (ad r1), vi v16] [] (fun o h9 hw => ct_X1_rideOn zk N s42 r0 r1 v16 k0 k1 hv16.1 hw o h9) kc_162 cm_X1_rideOn (rcc k0 (by decide) (fun _ => rfl) rfl) rfl rfl (Nat.le_of_ble_eq_true rfl) (by decide) (a' := 0) (b' := 0) ⟨rfl, rfl⟩ dX1_searchEarliest_123 (fun v43 hv43 => ?_)
              refine T_pop (pc := 126) C dX1_searchEarliest_126 rfl ?_
              refine T_iinc (pc := 127) (L' := [(4, vi (x4 + 1)), (6, vi v16), (5, vi v14), (0, .ref (ad r0)), (1, .ref (ad r1))]) C dX1_searchEarliest_127 (Nat.le_of_ble_eq_true rfl) 4 rfl rfl ?_
              refine T_goto (pc := 130) C 9 dX1_searchEarliest_130 rfl ?_
              refine T_sub (L' := [(0, .ref (ad r0)), (1, .ref (ad r1)), (4, vi (x4 + 1))]) [3, 4, 0] rfl ?_
              exact ih v43.1 (x4 + 1) (rng_inc c12 h4 (rngL rfl))
            · refine T_aload_n (pc := 75) C dX1_searchEarliest_75 rfl 2 rfl ?_
              refine Tc_getr (pc := 76) C r0 1 0 4 k0 (by decide) (fun _ => rfl) rfl inX1 (by decide) (v := .ref (ad (r0 + 1))) rfl kc_94 dX1_searchEarliest_76 ?_
              refine T_iload (pc := 79) C dX1_searchEarliest_79 1 rfl ?_
              refine T_guard (fun g44 => ?_)
              refine Tc_iald (pc := 81) C (r0 + 1) 20 10 v14.toNat (kd_1 k0).1 ⟨by decide, by decide⟩ rfl g44 rfl dX1_searchEarliest_81 (fun z45 => ?_)
              refine T_aload_n (pc := 82) C dX1_searchEarliest_82 rfl 2 rfl ?_
              refine Tc_getr (pc := 83) C r0 1 1 4 k0 (by decide) (fun _ => rfl) rfl inX1 (by decide) (v := .ref (ad (r0 + 2))) rfl kc_96 dX1_searchEarliest_83 ?_
              refine T_iload (pc := 86) C dX1_searchEarliest_86 0 rfl ?_
              refine T_guard (fun g46 => ?_)
              refine Tc_iald (pc := 88) C (r0 + 2) 20 10 v16.toNat (kd_1 k0).2.1 ⟨by decide, by decide⟩ rfl g46 rfl dX1_searchEarliest_88 (fun z47 => ?_)
              refine T_icmp_gt (pc := 89) C 111 dX1_searchEarliest_89 rfl z45 z47 (fun c48 => ?_) (fun c48 => ?_)
              · refine T_aload_n (pc := 111) C dX1_searchEarliest_111 rfl 2 rfl ?_
                refine Tc_getr (pc := 112) C r0 1 3 4 k0 (by decide) (fun _ => rfl) rfl inX1 (by decide) (v := .ref (ad (r0 + 4))) rfl kc_98 dX1_searchEarliest_112 ?_
                refine T_iload (pc := 115) C dX1_searchEarliest_115 0 rfl ?_
                refine T_iconst (pc := 117) C dX1_searchEarliest_117 ?_
                refine Tc_zast (pc := 118) C (r0 + 4) v16.toNat (kd_1 k0).2.2.2 g46 rfl (Or.inr rfl) dX1_searchEarliest_118 ?_
                refine T_blS (fun s49 => ?_)
                refine T_aload_n (pc := 119) C dX1_searchEarliest_119 rfl 2 rfl ?_
                refine T_aload_n (pc := 120) C dX1_searchEarliest_120 rfl 3 rfl ?_
                refine T_iload (pc := 121) C dX1_searchEarliest_121 0 rfl ?_
                refine T_czVi (pc := 123) zk.1 hZ C [.ref (ad r1), vi v16] [] (fun o h9 hw => ct_X1_rideOn zk N s49 r0 r1 v16 k0 k1 hv16.1 hw o h9) kc_162 cm_X1_rideOn (rcc k0 (by decide) (fun _ => rfl) rfl) rfl rfl (Nat.le_of_ble_eq_true rfl) (by decide) (a' := 0) (b' := 0) ⟨rfl, rfl⟩ dX1_searchEarliest_123 (fun v50 hv50 => ?_)
                refine T_pop (pc := 126) C dX1_searchEarliest_126 rfl ?_
                refine T_iinc (pc := 127) (L' := [(4, vi (x4 + 1)), (6, vi v16), (5, vi v14), (0, .ref (ad r0)), (1, .ref (ad r1))]) C dX1_searchEarliest_127 (Nat.le_of_ble_eq_true rfl) 4 rfl rfl ?_
                refine T_goto (pc := 130) C 9 dX1_searchEarliest_130 rfl ?_
                refine T_sub (L' := [(0, .ref (ad r0)), (1, .ref (ad r1)), (4, vi (x4 + 1))]) [3, 4, 0] rfl ?_
                exact ih v50.1 (x4 + 1) (rng_inc c12 h4 (rngL rfl))
              · refine T_aload_n (pc := 92) C dX1_searchEarliest_92 rfl 2 rfl ?_
                refine Tc_getr (pc := 93) C r0 1 2 4 k0 (by decide) (fun _ => rfl) rfl inX1 (by decide) (v := .ref (ad (r0 + 3))) rfl kc_97 dX1_searchEarliest_93 ?_
                refine T_iload (pc := 96) C dX1_searchEarliest_96 1 rfl ?_
                refine T_iconst (pc := 98) C dX1_searchEarliest_98 ?_
                refine Tc_zast (pc := 99) C (r0 + 3) v14.toNat (kd_1 k0).2.2.1 g44 rfl (Or.inr rfl) dX1_searchEarliest_99 ?_
                refine T_blS (fun s51 => ?_)
                refine T_aload_n (pc := 100) C dX1_searchEarliest_100 rfl 2 rfl ?_
                refine T_aload_n (pc := 101) C dX1_searchEarliest_101 rfl 3 rfl ?_
                refine T_iload (pc := 102) C dX1_searchEarliest_102 1 rfl ?_
                refine T_czVi (pc := 104) zk.1 hZ C [.ref (ad r1), vi v14] [] (fun o h9 hw => ct_X1_walkOn zk N s51 r0 r1 v14 k0 k1 hv14.1 hw o h9) kc_161 cm_X1_walkOn (rcc k0 (by decide) (fun _ => rfl) rfl) rfl rfl (Nat.le_of_ble_eq_true rfl) (by decide) (a' := 0) (b' := 0) ⟨rfl, rfl⟩ dX1_searchEarliest_104 (fun v52 hv52 => ?_)
                refine T_pop (pc := 107) C dX1_searchEarliest_107 rfl ?_
                refine T_goto (pc := 108) C 127 dX1_searchEarliest_108 rfl ?_
                refine T_iinc (pc := 127) (L' := [(4, vi (x4 + 1)), (6, vi v16), (5, vi v14), (0, .ref (ad r0)), (1, .ref (ad r1))]) C dX1_searchEarliest_127 (Nat.le_of_ble_eq_true rfl) 4 rfl rfl ?_
                refine T_goto (pc := 130) C 9 dX1_searchEarliest_130 rfl ?_
                refine T_sub (L' := [(0, .ref (ad r0)), (1, .ref (ad r1)), (4, vi (x4 + 1))]) [3, 4, 0] rfl ?_
                exact ih v52.1 (x4 + 1) (rng_inc c12 h4 (rngL rfl))
        · exact T_vret (pc := 62) (Sum.inl s0) (fun h9 => h9) (by decide) dX1_searchEarliest_62
def f_X1_searchEarliest (N : Nat) (σ : Sm) (r0 : Nat) (r1 : Nat) (x2 : Int) (x3 : Int) : Option Sm :=
  (f_X1_begin N σ r0 x2 x3).bind fun s1 => (f_X1_searchEarliest_9 N r0 r1 N s1 0).bind (Sum.elim (fun v => some v) fun q53 => some q53)
theorem ct_X1_searchEarliest {l : Launch} {cy : Nat → ClassId} {ad : Nat → Nat} {E : Nat → Nat → Nat} {G : va_G} {Z : vZ} (zk : Zk Z E) (N : Nat) (σ : Sm) (r0 : Nat) (r1 : Nat) (x2 : Int) (x3 : Int) (k0 : kd r0 = 1) (k1 : kd r1 = 8) (h2 : rng x2) (h3 : rng x3) (hw : wfc σ) (o : Sm) (h : f_X1_searchEarliest N σ r0 r1 x2 x3 = some o) : CzV Z l yX1_searchEarliest cX1_searchEarliest 7 rm_X1_searchEarliest (wlc cy ad E) wfc G (tyc cy) [.ref (ad r0), .ref (ad r1), vi x2, vi x3] σ o := by
  refine czV_of zk.1 (plainFor_of_name (by decide)) (Nat.le_of_ble_eq_true rfl) hw o o h (fun X Y w => EndV X Y cX1_searchEarliest rm_X1_searchEarliest w) (fun _ _ h => h) (fun X A Q hZ hX C => ?_)
  replace C : Cx X (Yc cy ad E G A 7 Q) cX1_searchEarliest RX1 none rm_X1_searchEarliest (tyc cy) := C
  replace hZ : Zx Z X (Yc cy ad E G A 7 Q) := hZ
  show T X (Yc cy ad E G A 7 Q) (fun w => EndV X (Yc cy ad E G A 7 Q) cX1_searchEarliest rm_X1_searchEarliest w) 0 0 0 [(0, .ref (ad r0)), (1, .ref (ad r1)), (2, vi x2), (3, vi x3)] [] σ (f_X1_searchEarliest N σ r0 r1 x2 x3)
  unfold f_X1_searchEarliest
  refine T_aload_n (pc := 0) C dX1_searchEarliest_0 rfl 0 rfl ?_
  refine T_iload_n (pc := 1) C dX1_searchEarliest_1 rfl 2 rfl ?_
  refine T_iload_n (pc := 2) C dX1_searchEarliest_2 rfl 3 rfl ?_
  refine T_czVv (pc := 3) zk.1 hZ C [vi x2, vi x3] [] (fun o h9 hw => ct_X1_begin zk N σ r0 x2 x3 k0 h2 h3 hw o h9) kc_159 cm_X1_begin (rcc k0 (by decide) (fun _ => rfl) rfl) rfl rfl (Nat.le_of_ble_eq_true rfl) (by decide) (a' := 0) (b' := 0) ⟨rfl, rfl⟩ dX1_searchEarliest_3 (fun s1 => ?_)
  refine T_iconst (pc := 6) C dX1_searchEarliest_6 ?_
  refine T_istore (pc := 7) (L' := [(4, vi 0), (0, .ref (ad r0)), (1, .ref (ad r1)), (2, vi x2), (3, vi x3)]) C dX1_searchEarliest_7 (Nat.le_of_ble_eq_true rfl) rfl ?_
  refine T_sub (L' := [(0, .ref (ad r0)), (1, .ref (ad r1)), (4, vi 0)]) [1, 2, 0] rfl ?_
  refine T_loopS (g := fun v => v) (lp_X1_searchEarliest_9 zk hZ C N r0 r1 k0 k1 N s1 0 (rngL rfl)) (fun v h9 => h9) (fun q53 hq53 => ?_)
  exact T_vret (pc := 133) q53 (fun h9 => h9) (by decide) dX1_searchEarliest_133

abbrev rm_X1_searchRounds : Room := ⟨4, 0, 0, 100⟩
theorem cm_X1_searchRounds : cmV yX1_searchRounds cX1_searchRounds 9 none 3 := ⟨kc_2, kc_99, ⟨by decide +kernel, by decide +kernel, by decide +kernel⟩, kc_165, kc_166⟩
def f_X1_searchRounds_30 (N : Nat) (r0 : Nat) (r1 : Nat) (x5 : Int) : Nat → Sm → Int → Int → Option (Sm × Int)
  | 0, _, _, _ => none
  | n + 1, s0, x4, x6 => (if (s0 r1 2) ≤ x6 then some (s0, x4) else (f_X1_walkOn N s0 r0 r1 x6).bind fun v26 => (f_X1_rideOn N v26.1 r0 r1 x6).bind fun v27 => (if x4 = 0 then (if v26.2 = 0 then (if v27.2 = 0 then f_X1_searchRounds_30 N r0 r1 x5 n v27.1 0 (x6 + 1) else f_X1_searchRounds_30 N r0 r1 x5 n v27.1 1 (x6 + 1)) else f_X1_searchRounds_30 N r0 r1 x5 n v27.1 1 (x6 + 1)) else f_X1_searchRounds_30 N r0 r1 x5 n v27.1 1 (x6 + 1)))
theorem lp_X1_searchRounds_30 {X : vjX} {A : Nat → Prop} {Q : State → Prop} {cy : Nat → ClassId} {ad : Nat → Nat} {E : Nat → Nat → Nat} {G : va_G} {Z : vZ} (zk : Zk Z E) (hZ : Zx Z X (Yc cy ad E G A 9 Q)) (C : Cx X (Yc cy ad E G A 9 Q) cX1_searchRounds RX1 none rm_X1_searchRounds (tyc cy)) (N : Nat) (r0 : Nat) (r1 : Nat) (k0 : kd r0 = 1) (k1 : kd r1 = 8) (x5 : Int) (h5 : rng x5) : ∀ (n : Nat) (s0 : Sm) (x4 : Int) (x6 : Int) (h4 : bit x4) (h6 : rng x6), T X (Yc cy ad E G A 9 Q) (fun (q : Sm × Int) => bit q.2 → J X (Yc cy ad E G A 9 Q) 0 0 85 [(0, .ref (ad r0)), (1, .ref (ad r1)), (4, vi q.2), (5, vi x5)] [] q.1) 0 0 30 [(0, .ref (ad r0)), (1, .ref (ad r1)), (4, vi x4), (5, vi x5), (6, vi x6)] [] s0 (f_X1_searchRounds_30 N r0 r1 x5 n s0 x4 x6) := by
  intro n
  induction n with
  | zero => intro s0 x4 x6 h4 h6; exact T_none
  | succ n ih =>
    intro s0 x4 x6 h4 h6
    rw [f_X1_searchRounds_30]
    refine T_iload (pc := 30) C dX1_searchRounds_30 4 rfl ?_
    refine T_aload_n (pc := 32) C dX1_searchRounds_32 rfl 1 rfl ?_
    refine Tc_geti (pc := 33) C r1 8 2 10 k1 (by decide) (fun _ => rfl) rfl inX8 (by decide) rfl kc_154 dX1_searchRounds_33 (fun z24 => ?_)
    refine T_icmp_ge (pc := 36) C 85 dX1_searchRounds_36 rfl h6 z24.1 (fun c25 => ?_) (fun c25 => ?_)
    · refine T_sub (L' := [(0, .ref (ad r0)), (1, .ref (ad r1)), (4, vi x4), (5, vi x5)]) [0, 1, 2, 3] rfl ?_
      exact T_exit (fun h9 => h9 h4)
    · refine T_aload_n (pc := 39) C dX1_searchRounds_39 rfl 0 rfl ?_
      refine T_aload_n (pc := 40) C dX1_searchRounds_40 rfl 1 rfl ?_
      refine T_iload (pc := 41) C dX1_searchRounds_41 4 rfl ?_
      refine T_czVi (pc := 43) zk.1 hZ C [.ref (ad r1), vi x6] [] (fun o h9 hw => ct_X1_walkOn zk N s0 r0 r1 x6 k0 k1 h6 hw o h9) kc_161 cm_X1_walkOn (rcc k0 (by decide) (fun _ => rfl) rfl) rfl rfl (Nat.le_of_ble_eq_true rfl) (by decide) (a' := 0) (b' := 0) ⟨rfl, rfl⟩ dX1_searchRounds_43 (fun v26 hv26 => ?_)
      refine T_istore (pc := 46) (L' := [(7, vi v26.2), (0, .ref (ad r0)), (1, .ref (ad r1)), (4, vi x4), (5, vi x5), (6, vi x6)]) C dX1_searchRounds_46 (Nat.le_of_ble_eq_true rfl) rfl ?_
      refine T_aload_n (pc := 48) C dX1_searchRounds_48 rfl 1 rfl ?_
      refine T_aload_n (pc := 49) C dX1_searchRounds_49 rfl 2 rfl ?_
      refine T_iload (pc := 50) C dX1_searchRounds_50 5 rfl ?_
      refine T_czVi (pc := 52) zk.1 hZ C [.ref (ad r1), vi x6] [] (fun o h9 hw => ct_X1_rideOn zk N v26.1 r0 r1 x6 k0 k1 h6 hw o h9) kc_162 cm_X1_rideOn (rcc k0 (by decide) (fun _ => rfl) rfl) rfl rfl (Nat.le_of_ble_eq_true rfl) (by decide) (a' := 0) (b' := 0) ⟨rfl, rfl⟩ dX1_searchRounds_52 (fun v27 hv27 => ?_)
      refine T_istore (pc := 55) (L' := [(8, vi v27.2), (7, vi v26.2), (0, .ref (ad r0)), (1, .ref (ad r1)), (4, vi x4), (5, vi x5), (6, vi x6)]) C dX1_searchRounds_55 (Nat.le_of_ble_eq_true rfl) rfl ?_
      refine T_iload (pc := 57) C dX1_searchRounds_57 4 rfl ?_
      refine T_if_ne (pc := 59) C 72 dX1_searchRounds_59 rfl (bit_rng h4) (fun c28 => ?_) (fun c28 => ?_)
      · refine T_iconst (pc := 72) C dX1_searchRounds_72 ?_
        refine T_goto (pc := 73) C 77 dX1_searchRounds_73 rfl ?_
        refine T_istore (pc := 77) (L' := [(4, vi 1), (8, vi v27.2), (7, vi v26.2), (0, .ref (ad r0)), (1, .ref (ad r1)), (5, vi x5), (6, vi x6)]) C dX1_searchRounds_77 (Nat.le_of_ble_eq_true rfl) rfl ?_
        refine T_iinc (pc := 79) (L' := [(6, vi (x6 + 1)), (4, vi 1), (8, vi v27.2), (7, vi v26.2), (0, .ref (ad r0)), (1, .ref (ad r1)), (5, vi x5)]) C dX1_searchRounds_79 (Nat.le_of_ble_eq_true rfl) 6 rfl rfl ?_
        refine T_goto (pc := 82) C 30 dX1_searchRounds_82 rfl ?_
        refine T_sub (L' := [(0, .ref (ad r0)), (1, .ref (ad r1)), (4, vi 1), (5, vi x5), (6, vi (x6 + 1))]) [4, 5, 1, 6, 0] rfl ?_
        exact ih v27.1 1 (x6 + 1) (Or.inr rfl) (rng_inc c25 h6 z24.1)
      · refine T_iload (pc := 62) C dX1_searchRounds_62 1 rfl ?_
        refine T_if_ne (pc := 64) C 72 dX1_searchRounds_64 rfl hv26.1 (fun c29 => ?_) (fun c29 => ?_)
        · refine T_iconst (pc := 72) C dX1_searchRounds_72 ?_
          refine T_goto (pc := 73) C 77 dX1_searchRounds_73 rfl ?_
          refine T_istore (pc := 77) (L' := [(4, vi 1), (8, vi v27.2), (7, vi v26.2), (0, .ref (ad r0)), (1, .ref (ad r1)), (5, vi x5), (6, vi x6)]) C dX1_searchRounds_77 (Nat.le_of_ble_eq_true rfl) rfl ?_
          refine T_iinc (pc := 79) (L' := [(6, vi (x6 + 1)), (4, vi 1), (8, vi v27.2), (7, vi v26.2), (0, .ref (ad r0)), (1, .ref (ad r1)), (5, vi x5)]) C dX1_searchRounds_79 (Nat.le_of_ble_eq_true rfl) 6 rfl rfl ?_
          refine T_goto (pc := 82) C 30 dX1_searchRounds_82 rfl ?_
          refine T_sub (L' := [(0, .ref (ad r0)), (1, .ref (ad r1)), (4, vi 1), (5, vi x5), (6, vi (x6 + 1))]) [4, 5, 1, 6, 0] rfl ?_
          exact ih v27.1 1 (x6 + 1) (Or.inr rfl) (rng_inc c25 h6 z24.1)
        · refine T_iload (pc := 67) C dX1_searchRounds_67 0 rfl ?_
          refine T_if_eq (pc := 69) C 76 dX1_searchRounds_69 rfl hv27.1 (fun c30 => ?_) (fun c30 => ?_)
          · refine T_iconst (pc := 76) C dX1_searchRounds_76 ?_
            refine T_istore (pc := 77) (L' := [(4, vi 0), (8, vi v27.2), (7, vi v26.2), (0, .ref (ad r0)), (1, .ref (ad r1)), (5, vi x5), (6, vi x6)]) C dX1_searchRounds_77 (Nat.le_of_ble_eq_true rfl) rfl ?_
            refine T_iinc (pc := 79) (L' := [(6, vi (x6 + 1)), (4, vi 0), (8, vi v27.2), (7, vi v26.2), (0, .ref (ad r0)), (1, .ref (ad r1)), (5, vi x5)]) C dX1_searchRounds_79 (Nat.le_of_ble_eq_true rfl) 6 rfl rfl ?_
            refine T_goto (pc := 82) C 30 dX1_searchRounds_82 rfl ?_
            refine T_sub (L' := [(0, .ref (ad r0)), (1, .ref (ad r1)), (4, vi 0), (5, vi x5), (6, vi (x6 + 1))]) [4, 5, 1, 6, 0] rfl ?_
            exact ih v27.1 0 (x6 + 1) (Or.inl rfl) (rng_inc c25 h6 z24.1)
          · refine T_iconst (pc := 72) C dX1_searchRounds_72 ?_
            refine T_goto (pc := 73) C 77 dX1_searchRounds_73 rfl ?_
            refine T_istore (pc := 77) (L' := [(4, vi 1), (8, vi v27.2), (7, vi v26.2), (0, .ref (ad r0)), (1, .ref (ad r1)), (5, vi x5), (6, vi x6)]) C dX1_searchRounds_77 (Nat.le_of_ble_eq_true rfl) rfl ?_
            refine T_iinc (pc := 79) (L' := [(6, vi (x6 + 1)), (4, vi 1), (8, vi v27.2), (7, vi v26.2), (0, .ref (ad r0)), (1, .ref (ad r1)), (5, vi x5)]) C dX1_searchRounds_79 (Nat.le_of_ble_eq_true rfl) 6 rfl rfl ?_
            refine T_goto (pc := 82) C 30 dX1_searchRounds_82 rfl ?_
            refine T_sub (L' := [(0, .ref (ad r0)), (1, .ref (ad r1)), (4, vi 1), (5, vi x5), (6, vi (x6 + 1))]) [4, 5, 1, 6, 0] rfl ?_
            exact ih v27.1 1 (x6 + 1) (Or.inr rfl) (rng_inc c25 h6 z24.1)
def f_X1_searchRounds_12 (N : Nat) (r0 : Nat) (r1 : Nat) : Nat → Sm → Int → Int → Option (Sm)
  | 0, _, _, _ => none
  | n + 1, s0, x4, x5 => (if 20 < x5 then some s0 else (if x4 = 0 then some s0 else (f_X1_searchRounds_30 N r0 r1 x5 N s0 0 0).bind fun q31 => f_X1_searchRounds_12 N r0 r1 n q31.1 q31.2 (x5 + 1)))
theorem lp_X1_searchRounds_12 {X : vjX} {A : Nat → Prop} {Q : State → Prop} {cy : Nat → ClassId} {ad : Nat → Nat} {E : Nat → Nat → Nat} {G : va_G} {Z : vZ} (zk : Zk Z E) (hZ : Zx Z X (Yc cy ad E G A 9 Q)) (C : Cx X (Yc cy ad E G A 9 Q) cX1_searchRounds RX1 none rm_X1_searchRounds (tyc cy)) (N : Nat) (r0 : Nat) (r1 : Nat) (k0 : kd r0 = 1) (k1 : kd r1 = 8) : ∀ (n : Nat) (s0 : Sm) (x4 : Int) (x5 : Int) (h4 : bit x4) (h5 : rng x5), T X (Yc cy ad E G A 9 Q) (fun (q : Sm) => True → J X (Yc cy ad E G A 9 Q) 0 0 91 [] [] q) 0 0 12 [(0, .ref (ad r0)), (1, .ref (ad r1)), (4, vi x4), (5, vi x5)] [] s0 (f_X1_searchRounds_12 N r0 r1 n s0 x4 x5) := by
  intro n
  induction n with
  | zero => intro s0 x4 x5 h4 h5; exact T_none
  | succ n ih =>
    intro s0 x4 x5 h4 h5
    rw [f_X1_searchRounds_12]
    refine T_iload (pc := 12) C dX1_searchRounds_12 3 rfl ?_
    refine T_bipush (pc := 14) C dX1_searchRounds_14 (by decide) ?_
    refine T_icmp_gt (pc := 16) C 91 dX1_searchRounds_16 rfl h5 (rngL rfl) (fun c17 => ?_) (fun c17 => ?_)
    · refine T_sub (L' := []) [] rfl ?_
      exact T_exit (fun h9 => h9 trivial)
    · refine T_iload (pc := 19) C dX1_searchRounds_19 2 rfl ?_
      refine T_if_eq (pc := 21) C 91 dX1_searchRounds_21 rfl (bit_rng h4) (fun c18 => ?_) (fun c18 => ?_)
      · refine T_sub (L' := []) [] rfl ?_
        exact T_exit (fun h9 => h9 trivial)
      · refine T_iconst (pc := 24) C dX1_searchRounds_24 ?_
        refine T_istore (pc := 25) (L' := [(4, vi 0), (0, .ref (ad r0)), (1, .ref (ad r1)), (5, vi x5)]) C dX1_searchRounds_25 (Nat.le_of_ble_eq_true rfl) rfl ?_
        refine T_iconst (pc := 27) C dX1_searchRounds_27 ?_
        refine T_istore (pc := 28) (L' := [(6, vi 0), (4, vi 0), (0, .ref (ad r0)), (1, .ref (ad r1)), (5, vi x5)]) C dX1_searchRounds_28 (Nat.le_of_ble_eq_true rfl) rfl ?_
        refine T_sub (L' := [(0, .ref (ad r0)), (1, .ref (ad r1)), (4, vi 0), (5, vi x5), (6, vi 0)]) [2, 3, 1, 4, 0] rfl ?_
        refine T_loopE (lp_X1_searchRounds_30 zk hZ C N r0 r1 k0 k1 x5 h5 N s0 0 0 (Or.inl rfl) (rngL rfl)) (fun q31 hq31 => ?_)
        refine T_iinc (pc := 85) (L' := [(5, vi (x5 + 1)), (0, .ref (ad r0)), (1, .ref (ad r1)), (4, vi q31.2)]) C dX1_searchRounds_85 (Nat.le_of_ble_eq_true rfl) 3 rfl rfl ?_
        refine T_goto (pc := 88) C 12 dX1_searchRounds_88 rfl ?_
        refine T_sub (L' := [(0, .ref (ad r0)), (1, .ref (ad r1)), (4, vi q31.2), (5, vi (x5 + 1))]) [1, 2, 3, 0] rfl ?_
        exact ih q31.1 q31.2 (x5 + 1) hq31 (rng_incl c17 h5 (by decide))
def f_X1_searchRounds (N : Nat) (σ : Sm) (r0 : Nat) (r1 : Nat) (x2 : Int) (x3 : Int) : Option Sm :=
  (f_X1_begin N σ r0 x2 x3).bind fun s1 => (f_X1_searchRounds_12 N r0 r1 N s1 1 0).bind fun q32 => some q32
theorem ct_X1_searchRounds {l : Launch} {cy : Nat → ClassId} {ad : Nat → Nat} {E : Nat → Nat → Nat} {G : va_G} {Z : vZ} (zk : Zk Z E) (N : Nat) (σ : Sm) (r0 : Nat) (r1 : Nat) (x2 : Int) (x3 : Int) (k0 : kd r0 = 1) (k1 : kd r1 = 8) (h2 : rng x2) (h3 : rng x3) (hw : wfc σ) (o : Sm) (h : f_X1_searchRounds N σ r0 r1 x2 x3 = some o) : CzV Z l yX1_searchRounds cX1_searchRounds 9 rm_X1_searchRounds (wlc cy ad E) wfc G (tyc cy) [.ref (ad r0), .ref (ad r1), vi x2, vi x3] σ o := by
  refine czV_of zk.1 (plainFor_of_name (by decide)) (Nat.le_of_ble_eq_true rfl) hw o o h (fun X Y w => EndV X Y cX1_searchRounds rm_X1_searchRounds w) (fun _ _ h => h) (fun X A Q hZ hX C => ?_)
  replace C : Cx X (Yc cy ad E G A 9 Q) cX1_searchRounds RX1 none rm_X1_searchRounds (tyc cy) := C
  replace hZ : Zx Z X (Yc cy ad E G A 9 Q) := hZ
  show T X (Yc cy ad E G A 9 Q) (fun w => EndV X (Yc cy ad E G A 9 Q) cX1_searchRounds rm_X1_searchRounds w) 0 0 0 [(0, .ref (ad r0)), (1, .ref (ad r1)), (2, vi x2), (3, vi x3)] [] σ (f_X1_searchRounds N σ r0 r1 x2 x3)
  unfold f_X1_searchRounds
  refine T_aload_n (pc := 0) C dX1_searchRounds_0 rfl 0 rfl ?_
  refine T_iload_n (pc := 1) C dX1_searchRounds_1 rfl 2 rfl ?_
  refine T_iload_n (pc := 2) C dX1_searchRounds_2 rfl 3 rfl ?_
  refine T_czVv (pc := 3) zk.1 hZ C [vi x2, vi x3] [] (fun o h9 hw => ct_X1_begin zk N σ r0 x2 x3 k0 h2 h3 hw o h9) kc_159 cm_X1_begin (rcc k0 (by decide) (fun _ => rfl) rfl) rfl rfl (Nat.le_of_ble_eq_true rfl) (by decide) (a' := 0) (b' := 0) ⟨rfl, rfl⟩ dX1_searchRounds_3 (fun s1 => ?_)
  refine T_iconst (pc := 6) C dX1_searchRounds_6 ?_
  refine T_istore (pc := 7) (L' := [(4, vi 1), (0, .ref (ad r0)), (1, .ref (ad r1)), (2, vi x2), (3, vi x3)]) C dX1_searchRounds_7 (Nat.le_of_ble_eq_true rfl) rfl ?_
  refine T_iconst (pc := 9) C dX1_searchRounds_9 ?_
  refine T_istore (pc := 10) (L' := [(5, vi 0), (4, vi 1), (0, .ref (ad r0)), (1, .ref (ad r1)), (2, vi x2), (3, vi x3)]) C dX1_searchRounds_10 (Nat.le_of_ble_eq_true rfl) rfl ?_
  refine T_sub (L' := [(0, .ref (ad r0)), (1, .ref (ad r1)), (4, vi 1), (5, vi 0)]) [2, 3, 1, 0] rfl ?_
  refine T_loopE (lp_X1_searchRounds_12 zk hZ C N r0 r1 k0 k1 N s1 1 0 (Or.inr rfl) (rngL rfl)) (fun q32 hq32 => ?_)
  exact T_vret (pc := 91) q32 (fun h9 => h9) (by decide) dX1_searchRounds_91

abbrev rm_J7_fill_53178 : Room := ⟨0, 0, 0, 0⟩
theorem cm_J7_fill_53178 : cmS yJ7_fill_53178 cJ7_fill_53178 4 none 2 := ⟨kc_93, kc_167, ⟨by decide +kernel, by decide +kernel, by decide +kernel⟩, kc_168⟩
def f_J7_fill_53178_5 (r0 : Nat) (K0 : Nat) (x1 : Int) (x3 : Int) : Nat → Sm → Int → Option (Sm)
  | 0, _, _ => none
  | n + 1, s0, x2 => (if x3 ≤ x2 then some s0 else if 0 ≤ x2 ∧ x2 < ((alen K0 : Nat) : Int) then bl (upm s0 r0 x2.toNat x1) fun s7 => f_J7_fill_53178_5 r0 K0 x1 x3 n s7 (x2 + 1) else none)
theorem lp_J7_fill_53178_5 {X : vjX} {A : Nat → Prop} {Q : State → Prop} {cy : Nat → ClassId} {ad : Nat → Nat} {E : Nat → Nat → Nat} {G : va_G} {Z : vZ} (zk : Zk Z E) (hZ : Zx Z X (Yc cy ad E G A 4 Q)) (C : Cx X (Yc cy ad E G A 4 Q) cJ7_fill_53178 RJ7 none rm_J7_fill_53178 (tyc cy)) (r0 : Nat) (K0 : Nat) (k0 : kd r0 = K0) (i0 : isIA K0) (x1 : Int) (x3 : Int) (h1 : rng x1) (h3 : rng x3) : ∀ (n : Nat) (s0 : Sm) (x2 : Int) (h2 : rng x2), T X (Yc cy ad E G A 4 Q) (fun (q : Sm) => True → J X (Yc cy ad E G A 4 Q) 0 0 20 [] [] q) 0 0 5 [(0, .ref (ad r0)), (1, vi x1), (2, vi x2), (3, vi x3)] [] s0 (f_J7_fill_53178_5 r0 K0 x1 x3 n s0 x2) := by
  intro n
  induction n with
  | zero => intro s0 x2 h2; exact T_none
  | succ n ih =>
    intro s0 x2 h2
    rw [f_J7_fill_53178_5]
    refine T_iload_n (pc := 5) C dJ7_fill_53178_5 rfl 2 rfl ?_
    refine T_iload_n (pc := 6) C dJ7_fill_53178_6 rfl 3 rfl ?_
    refine T_icmp_ge (pc := 7) C 20 dJ7_fill_53178_7 rfl h2 h3 (fun c5 => ?_) (fun c5 => ?_)
    · refine T_sub (L' := []) [] rfl ?_
      exact T_exit (fun h9 => h9 trivial)
    · refine T_aload_n (pc := 10) C dJ7_fill_53178_10 rfl 0 rfl ?_
      refine T_iload_n (pc := 11) C dJ7_fill_53178_11 rfl 2 rfl ?_
      refine T_iload_n (pc := 12) C dJ7_fill_53178_12 rfl 1 rfl ?_
      refine T_guard (fun g6 => ?_)
      refine Tc_iast (pc := 13) C r0 K0 (alen K0) x2.toNat k0 i0 rfl g6 rfl h1 dJ7_fill_53178_13 ?_
      refine T_blS (fun s7 => ?_)
      refine T_iinc (pc := 14) (L' := [(2, vi (x2 + 1)), (0, .ref (ad r0)), (1, vi x1), (3, vi x3)]) C dJ7_fill_53178_14 (Nat.le_of_ble_eq_true rfl) 2 rfl rfl ?_
      refine T_goto (pc := 17) C 5 dJ7_fill_53178_17 rfl ?_
      refine T_sub (L' := [(0, .ref (ad r0)), (1, vi x1), (2, vi (x2 + 1)), (3, vi x3)]) [1, 2, 0, 3] rfl ?_
      exact ih s7 (x2 + 1) (rng_inc c5 h2 h3)
def f_J7_fill_53178 (N : Nat) (σ : Sm) (r0 : Nat) (K0 : Nat) (x1 : Int) : Option Sm :=
  bl ((alen K0 : Nat) : Int) fun v1 => (f_J7_fill_53178_5 r0 K0 x1 v1 N σ 0).bind fun q8 => some q8
theorem ct_J7_fill_53178 {l : Launch} {cy : Nat → ClassId} {ad : Nat → Nat} {E : Nat → Nat → Nat} {G : va_G} {Z : vZ} (zk : Zk Z E) (N : Nat) (σ : Sm) (r0 : Nat) (K0 : Nat) (x1 : Int) (k0 : kd r0 = K0) (i0 : isIA K0) (h1 : rng x1) (hw : wfc σ) (o : Sm) (h : f_J7_fill_53178 N σ r0 K0 x1 = some o) : CzV Z l yJ7_fill_53178 cJ7_fill_53178 4 rm_J7_fill_53178 (wlc cy ad E) wfc G (tyc cy) [.ref (ad r0), vi x1] σ o := by
  refine czV_of zk.1 (by decide +kernel) (Nat.le_of_ble_eq_true rfl) hw o o h (fun X Y w => EndV X Y cJ7_fill_53178 rm_J7_fill_53178 w) (fun _ _ h => h) (fun X A Q hZ hX C => ?_)
  replace C : Cx X (Yc cy ad E G A 4 Q) cJ7_fill_53178 RJ7 none rm_J7_fill_53178 (tyc cy) := C
  replace hZ : Zx Z X (Yc cy ad E G A 4 Q) := hZ
  show T X (Yc cy ad E G A 4 Q) (fun w => EndV X (Yc cy ad E G A 4 Q) cJ7_fill_53178 rm_J7_fill_53178 w) 0 0 0 [(0, .ref (ad r0)), (1, vi x1)] [] σ (f_J7_fill_53178 N σ r0 K0 x1)
  unfold f_J7_fill_53178
  refine T_iconst (pc := 0) C dJ7_fill_53178_0 ?_
  refine T_istore_n (pc := 1) (L' := [(2, vi 0), (0, .ref (ad r0)), (1, vi x1)]) C dJ7_fill_53178_1 rfl (Nat.le_of_ble_eq_true rfl) rfl ?_
  refine T_aload_n (pc := 2) C dJ7_fill_53178_2 rfl 1 rfl ?_
  refine Tc_alen (pc := 3) C r0 K0 k0 i0 dJ7_fill_53178_3 ?_
  refine T_blV (alen_rng _) (fun v1 hv1 => ?_)
  refine T_istore_n (pc := 4) (L' := [(3, vi v1), (2, vi 0), (0, .ref (ad r0)), (1, vi x1)]) C dJ7_fill_53178_4 rfl (Nat.le_of_ble_eq_true rfl) rfl ?_
  refine T_sub (L' := [(0, .ref (ad r0)), (1, vi x1), (2, vi 0), (3, vi v1)]) [2, 3, 1, 0] rfl ?_
  refine T_loopE (lp_J7_fill_53178_5 zk hZ C r0 K0 k0 i0 x1 v1 h1 hv1 N σ 0 (rngL rfl)) (fun q8 hq8 => ?_)
  exact T_vret (pc := 20) q8 (fun h9 => h9) (by decide) dJ7_fill_53178_20

abbrev rm_X2_canRide : Room := ⟨1, 0, 0, 22⟩
theorem cm_X2_canRide : cmS yX2_canRide cX2_canRide 7 (some .boolean) 3 := ⟨kc_13, kc_174, ⟨by decide +kernel, by decide +kernel, by decide +kernel⟩, kc_175⟩
def f_X2_canRide_22 (N : Nat) (σ : Sm) (r0 : Nat) (x1 : Int) (x2 : Int) : Nat → Int → Option (Int ⊕ Unit)
  | 0, _ => none
  | n + 1, x3 => (if (σ r0 7) ≤ x3 then some (.inr ()) else if 0 ≤ x3 ∧ x3 < 5 then (f_X7_placeOf N σ (r0 + 23 + 2 * x3.toNat) x1).bind fun v19 => (f_X7_placeOf N σ (r0 + 23 + 2 * x3.toNat) x2).bind fun v20 => (f_X7_isRunning σ (r0 + 23 + 2 * x3.toNat)).bind fun v21 => (if v21 = 0 then f_X2_canRide_22 N σ r0 x1 x2 n (x3 + 1) else (if v19 = (-1) then f_X2_canRide_22 N σ r0 x1 x2 n (x3 + 1) else (if v20 = (-1) then f_X2_canRide_22 N σ r0 x1 x2 n (x3 + 1) else (if v20 = 0 then some (.inl 1) else (if v20 ≤ v19 then f_X2_canRide_22 N σ r0 x1 x2 n (x3 + 1) else some (.inl 1)))))) else none)
theorem lp_X2_canRide_22 {X : vjX} {A : Nat → Prop} {Q : State → Prop} {cy : Nat → ClassId} {ad : Nat → Nat} {E : Nat → Nat → Nat} {G : va_G} {Z : vZ} (zk : Zk Z E) (hZ : Zx Z X (Yc cy ad E G A 7 Q)) (C : Cx X (Yc cy ad E G A 7 Q) cX2_canRide RX2 (some .boolean) rm_X2_canRide (tyc cy)) (N : Nat) (σ : Sm) (r0 : Nat) (k0 : kd r0 = 8) (x1 : Int) (x2 : Int) (h1 : rng x1) (h2 : rng x2) : ∀ (n : Nat) (x3 : Int) (h3 : rng x3), T X (Yc cy ad E G A 7 Q) (Sum.elim (fun v => EndI X (Yc cy ad E G A 7 Q) cX2_canRide rm_X2_canRide .boolean (σ, v)) (fun (q : Unit) => True → J X (Yc cy ad E G A 7 Q) 0 0 94 [] [] σ)) 0 0 22 [(0, .ref (ad r0)), (1, vi x1), (2, vi x2), (3, vi x3)] [] σ (f_X2_canRide_22 N σ r0 x1 x2 n x3) := by
  intro n
  induction n with
  | zero => intro x3 h3; exact T_none
  | succ n ih =>
    intro x3 h3
    rw [f_X2_canRide_22]
    refine T_iload_n (pc := 22) C dX2_canRide_22 rfl 3 rfl ?_
    refine T_aload_n (pc := 23) C dX2_canRide_23 rfl 0 rfl ?_
    refine Tc_geti (pc := 24) C r0 8 7 10 k0 (by decide) (fun _ => rfl) rfl inX8 (by decide) rfl kc_170 dX2_canRide_24 (fun z15 => ?_)
    refine T_icmp_ge (pc := 27) C 94 dX2_canRide_27 rfl h3 z15.1 (fun c16 => ?_) (fun c16 => ?_)
    · refine T_sub (L' := []) [] rfl ?_
      exact T_exit (fun h9 => h9 trivial)
    · refine T_aload_n (pc := 30) C dX2_canRide_30 rfl 0 rfl ?_
      refine Tc_getr (pc := 31) C r0 8 8 10 k0 (by decide) (fun _ => rfl) rfl inX8 (by decide) (v := .ref (ad (r0 + 4))) rfl kc_171 dX2_canRide_31 ?_
      refine T_iload_n (pc := 34) C dX2_canRide_34 rfl 3 rfl ?_
      refine T_guard (fun g17 => ?_)
      refine Tc_ald27 (pc := 35) C r0 k0 g17 dX2_canRide_35 (fun y18 => ?_)
      refine T_astore (pc := 36) (L' := [(4, .ref (ad (r0 + 23 + 2 * x3.toNat))), (0, .ref (ad r0)), (1, vi x1), (2, vi x2), (3, vi x3)]) C dX2_canRide_36 (Nat.le_of_ble_eq_true rfl) rfl ?_
      refine T_aload (pc := 38) C dX2_canRide_38 0 rfl ?_
      refine T_iload_n (pc := 40) C dX2_canRide_40 rfl 2 rfl ?_
      refine T_czVip (pc := 41) zk.1 hZ C [vi x1] [] (fun o h9 hw => ct_X7_placeOf zk N σ (r0 + 23 + 2 * x3.toNat) x1 y18 h1 hw o h9) kc_172 cm_X7_placeOf (rcc y18 (by decide) (fun _ => rfl) rfl) rfl rfl (Nat.le_of_ble_eq_true rfl) (by decide) (a' := 0) (b' := 0) ⟨rfl, rfl⟩ dX2_canRide_41 (fun v19 hv19 => ?_)
      refine T_istore (pc := 44) (L' := [(5, vi v19), (4, .ref (ad (r0 + 23 + 2 * x3.toNat))), (0, .ref (ad r0)), (1, vi x1), (2, vi x2), (3, vi x3)]) C dX2_canRide_44 (Nat.le_of_ble_eq_true rfl) rfl ?_
      refine T_aload (pc := 46) C dX2_canRide_46 1 rfl ?_
      refine T_iload_n (pc := 48) C dX2_canRide_48 rfl 4 rfl ?_
      refine T_czVip (pc := 49) zk.1 hZ C [vi x2] [] (fun o h9 hw => ct_X7_placeOf zk N σ (r0 + 23 + 2 * x3.toNat) x2 y18 h2 hw o h9) kc_172 cm_X7_placeOf (rcc y18 (by decide) (fun _ => rfl) rfl) rfl rfl (Nat.le_of_ble_eq_true rfl) (by decide) (a' := 0) (b' := 0) ⟨rfl, rfl⟩ dX2_canRide_49 (fun v20 hv20 => ?_)
      refine T_istore (pc := 52) (L' := [(6, vi v20), (5, vi v19), (4, .ref (ad (r0 + 23 + 2 * x3.toNat))), (0, .ref (ad r0)), (1, vi x1), (2, vi x2), (3, vi x3)]) C dX2_canRide_52 (Nat.le_of_ble_eq_true rfl) rfl ?_
      refine T_aload (pc := 54) C dX2_canRide_54 2 rfl ?_
      refine T_czVip (pc := 56) zk.1 hZ C [] [] (fun o h9 hw => ct_X7_isRunning zk σ (r0 + 23 + 2 * x3.toNat) y18 hw o h9) kc_173 cm_X7_isRunning (rcc y18 (by decide) (fun _ => rfl) rfl) rfl rfl (Nat.le_of_ble_eq_true rfl) (by decide) (a' := 0) (b' := 0) ⟨rfl, rfl⟩ dX2_canRide_56 (fun v21 hv21 => ?_)
      refine T_if_eq (pc := 59) C 88 dX2_canRide_59 rfl hv21.1 (fun c22 => ?_) (fun c22 => ?_)
      · refine T_iinc (pc := 88) (L' := [(3, vi (x3 + 1)), (6, vi v20), (5, vi v19), (4, .ref (ad (r0 + 23 + 2 * x3.toNat))), (0, .ref (ad r0)), (1, vi x1), (2, vi x2)]) C dX2_canRide_88 (Nat.le_of_ble_eq_true rfl) 6 rfl rfl ?_
        refine T_goto (pc := 91) C 22 dX2_canRide_91 rfl ?_
        refine T_sub (L' := [(0, .ref (ad r0)), (1, vi x1), (2, vi x2), (3, vi (x3 + 1))]) [4, 5, 6, 0] rfl ?_
        exact ih (x3 + 1) (rng_inc c16 h3 z15.1)
      · refine T_iload (pc := 62) C dX2_canRide_62 1 rfl ?_
        refine T_iconst (pc := 64) C dX2_canRide_64 ?_
        refine T_icmp_eq (pc := 65) C 88 dX2_canRide_65 rfl hv19.1 (rngL rfl) (fun c23 => ?_) (fun c23 => ?_)
        · refine T_iinc (pc := 88) (L' := [(3, vi (x3 + 1)), (6, vi v20), (5, vi v19), (4, .ref (ad (r0 + 23 + 2 * x3.toNat))), (0, .ref (ad r0)), (1, vi x1), (2, vi x2)]) C dX2_canRide_88 (Nat.le_of_ble_eq_true rfl) 6 rfl rfl ?_
          refine T_goto (pc := 91) C 22 dX2_canRide_91 rfl ?_
          refine T_sub (L' := [(0, .ref (ad r0)), (1, vi x1), (2, vi x2), (3, vi (x3 + 1))]) [4, 5, 6, 0] rfl ?_
          exact ih (x3 + 1) (rng_inc c16 h3 z15.1)
        · refine T_iload (pc := 68) C dX2_canRide_68 0 rfl ?_
          refine T_iconst (pc := 70) C dX2_canRide_70 ?_
          refine T_icmp_eq (pc := 71) C 88 dX2_canRide_71 rfl hv20.1 (rngL rfl) (fun c24 => ?_) (fun c24 => ?_)
          · refine T_iinc (pc := 88) (L' := [(3, vi (x3 + 1)), (6, vi v20), (5, vi v19), (4, .ref (ad (r0 + 23 + 2 * x3.toNat))), (0, .ref (ad r0)), (1, vi x1), (2, vi x2)]) C dX2_canRide_88 (Nat.le_of_ble_eq_true rfl) 6 rfl rfl ?_
            refine T_goto (pc := 91) C 22 dX2_canRide_91 rfl ?_
            refine T_sub (L' := [(0, .ref (ad r0)), (1, vi x1), (2, vi x2), (3, vi (x3 + 1))]) [4, 5, 6, 0] rfl ?_
            exact ih (x3 + 1) (rng_inc c16 h3 z15.1)
          · refine T_iload (pc := 74) C dX2_canRide_74 0 rfl ?_
            refine T_if_eq (pc := 76) C 86 dX2_canRide_76 rfl hv20.1 (fun c25 => ?_) (fun c25 => ?_)
            · refine T_iconst (pc := 86) C dX2_canRide_86 ?_
              exact T_iret (pc := 87) (Sum.inl 1) (fun h9 => h9) (rngL rfl) (nar_Z (Or.inr rfl)) (by decide) dX2_canRide_87
            · refine T_iload (pc := 79) C dX2_canRide_79 0 rfl ?_
              refine T_iload (pc := 81) C dX2_canRide_81 1 rfl ?_
              refine T_icmp_le (pc := 83) C 88 dX2_canRide_83 rfl hv20.1 hv19.1 (fun c26 => ?_) (fun c26 => ?_)
              · refine T_iinc (pc := 88) (L' := [(3, vi (x3 + 1)), (6, vi v20), (5, vi v19), (4, .ref (ad (r0 + 23 + 2 * x3.toNat))), (0, .ref (ad r0)), (1, vi x1), (2, vi x2)]) C dX2_canRide_88 (Nat.le_of_ble_eq_true rfl) 6 rfl rfl ?_
                refine T_goto (pc := 91) C 22 dX2_canRide_91 rfl ?_
                refine T_sub (L' := [(0, .ref (ad r0)), (1, vi x1), (2, vi x2), (3, vi (x3 + 1))]) [4, 5, 6, 0] rfl ?_
                exact ih (x3 + 1) (rng_inc c16 h3 z15.1)
              · refine T_iconst (pc := 86) C dX2_canRide_86 ?_
                exact T_iret (pc := 87) (Sum.inl 1) (fun h9 => h9) (rngL rfl) (nar_Z (Or.inr rfl)) (by decide) dX2_canRide_87
def f_X2_canRide (N : Nat) (σ : Sm) (r0 : Nat) (x1 : Int) (x2 : Int) : Option Int :=
  if 0 ≤ x1 ∧ x1 < 10 then (if (σ (r0 + 2) x1.toNat) = 0 then if 0 ≤ x2 ∧ x2 < 10 then (if (σ (r0 + 2) x2.toNat) = 0 then (f_X2_canRide_22 N σ r0 x1 x2 N 0).bind (Sum.elim (fun v => some v) fun q27 => some 0) else some 0) else none else some 0) else none
theorem ct_X2_canRide {l : Launch} {cy : Nat → ClassId} {ad : Nat → Nat} {E : Nat → Nat → Nat} {G : va_G} {Z : vZ} (zk : Zk Z E) (N : Nat) (σ : Sm) (r0 : Nat) (x1 : Int) (x2 : Int) (k0 : kd r0 = 8) (h1 : rng x1) (h2 : rng x2) (hw : wfc σ) (o : Int) (h : f_X2_canRide N σ r0 x1 x2 = some o) : CzI Z l yX2_canRide cX2_canRide 7 (some .boolean) rm_X2_canRide (wlc cy ad E) wfc G (tyc cy) [.ref (ad r0), vi x1, vi x2] σ σ o := by
  refine czI_of zk.1 (plainFor_of_name (by decide)) (Nat.le_of_ble_eq_true rfl) hw (σ, o) o h (fun X Y v => EndI X Y cX2_canRide rm_X2_canRide .boolean (σ, v)) (fun _ _ h => h) (fun X A Q hZ hX C => ?_)
  replace C : Cx X (Yc cy ad E G A 7 Q) cX2_canRide RX2 (some .boolean) rm_X2_canRide (tyc cy) := C
  replace hZ : Zx Z X (Yc cy ad E G A 7 Q) := hZ
  show T X (Yc cy ad E G A 7 Q) (fun v => EndI X (Yc cy ad E G A 7 Q) cX2_canRide rm_X2_canRide .boolean (σ, v)) 0 0 0 [(0, .ref (ad r0)), (1, vi x1), (2, vi x2)] [] σ (f_X2_canRide N σ r0 x1 x2)
  unfold f_X2_canRide
  refine T_aload_n (pc := 0) C dX2_canRide_0 rfl 0 rfl ?_
  refine Tc_getr (pc := 1) C r0 8 4 10 k0 (by decide) (fun _ => rfl) rfl inX8 (by decide) (v := .ref (ad (r0 + 2))) rfl kc_169 dX2_canRide_1 ?_
  refine T_iload_n (pc := 4) C dX2_canRide_4 rfl 1 rfl ?_
  refine T_guard (fun g1 => ?_)
  refine Tc_zald (pc := 5) C (r0 + 2) x1.toNat (kd_8 k0).2.1 g1 rfl dX2_canRide_5 (fun z2 => ?_)
  refine T_if_ne (pc := 6) C 18 dX2_canRide_6 rfl (bit_rng z2) (fun c3 => ?_) (fun c3 => ?_)
  · refine T_iconst (pc := 18) C dX2_canRide_18 ?_
    exact T_iret (pc := 19) 0 (fun h9 => h9) (rngL rfl) (nar_Z (Or.inl rfl)) (by decide) dX2_canRide_19
  · refine T_aload_n (pc := 9) C dX2_canRide_9 rfl 0 rfl ?_
    refine Tc_getr (pc := 10) C r0 8 4 10 k0 (by decide) (fun _ => rfl) rfl inX8 (by decide) (v := .ref (ad (r0 + 2))) rfl kc_169 dX2_canRide_10 ?_
    refine T_iload_n (pc := 13) C dX2_canRide_13 rfl 2 rfl ?_
    refine T_guard (fun g4 => ?_)
    refine Tc_zald (pc := 14) C (r0 + 2) x2.toNat (kd_8 k0).2.1 g4 rfl dX2_canRide_14 (fun z5 => ?_)
    refine T_if_eq (pc := 15) C 20 dX2_canRide_15 rfl (bit_rng z5) (fun c6 => ?_) (fun c6 => ?_)
    · refine T_iconst (pc := 20) C dX2_canRide_20 ?_
      refine T_istore_n (pc := 21) (L' := [(3, vi 0), (0, .ref (ad r0)), (1, vi x1), (2, vi x2)]) C dX2_canRide_21 rfl (Nat.le_of_ble_eq_true rfl) rfl ?_
      refine T_sub (L' := [(0, .ref (ad r0)), (1, vi x1), (2, vi x2), (3, vi 0)]) [1, 2, 3, 0] rfl ?_
      refine T_loopS (g := fun v => v) (lp_X2_canRide_22 zk hZ C N σ r0 k0 x1 x2 h1 h2 N 0 (rngL rfl)) (fun v h9 => h9) (fun q27 hq27 => ?_)
      refine T_iconst (pc := 94) C dX2_canRide_94 ?_
      exact T_iret (pc := 95) 0 (fun h9 => h9) (rngL rfl) (nar_Z (Or.inl rfl)) (by decide) dX2_canRide_95
    · refine T_iconst (pc := 18) C dX2_canRide_18 ?_
      exact T_iret (pc := 19) 0 (fun h9 => h9) (rngL rfl) (nar_Z (Or.inl rfl)) (by decide) dX2_canRide_19

abbrev rm_X2_rideAll : Room := ⟨2, 0, 0, 48⟩
theorem cm_X2_rideAll : cmV yX2_rideAll cX2_rideAll 5 none 3 := ⟨kc_12, kc_174, ⟨by decide +kernel, by decide +kernel, by decide +kernel⟩, kc_179, kc_180⟩
def f_X2_rideAll_3 (N : Nat) (r0 : Nat) (r1 : Nat) (x2 : Int) (x3 : Int) : Nat → Sm → Int → Option (Sm)
  | 0, _, _ => none
  | n + 1, s0, x4 => (if (s0 r1 2) ≤ x4 then some s0 else if 0 ≤ x4 ∧ x4 < 10 then (if (s0 (r0 + 1) x4.toNat) ≤ x3 then f_X2_rideAll_3 N r0 r1 x2 x3 n s0 (x4 + 1) else (f_X2_canRide N s0 r1 x2 x4).bind fun v11 => (if v11 = 0 then f_X2_rideAll_3 N r0 r1 x2 x3 n s0 (x4 + 1) else bl (upm s0 (r0 + 1) x4.toNat x3) fun s13 => f_X2_rideAll_3 N r0 r1 x2 x3 n s13 (x4 + 1))) else none)
theorem lp_X2_rideAll_3 {X : vjX} {A : Nat → Prop} {Q : State → Prop} {cy : Nat → ClassId} {ad : Nat → Nat} {E : Nat → Nat → Nat} {G : va_G} {Z : vZ} (zk : Zk Z E) (hZ : Zx Z X (Yc cy ad E G A 5 Q)) (C : Cx X (Yc cy ad E G A 5 Q) cX2_rideAll RX2 none rm_X2_rideAll (tyc cy)) (N : Nat) (r0 : Nat) (r1 : Nat) (k0 : kd r0 = 2) (k1 : kd r1 = 8) (x2 : Int) (x3 : Int) (h2 : rng x2) (h3 : rng x3) : ∀ (n : Nat) (s0 : Sm) (x4 : Int) (h4 : rng x4), T X (Yc cy ad E G A 5 Q) (fun (q : Sm) => True → J X (Yc cy ad E G A 5 Q) 0 0 47 [] [] q) 0 0 3 [(0, .ref (ad r0)), (1, .ref (ad r1)), (2, vi x2), (3, vi x3), (4, vi x4)] [] s0 (f_X2_rideAll_3 N r0 r1 x2 x3 n s0 x4) := by
  intro n
  induction n with
  | zero => intro s0 x4 h4; exact T_none
  | succ n ih =>
    intro s0 x4 h4
    rw [f_X2_rideAll_3]
    refine T_iload (pc := 3) C dX2_rideAll_3 4 rfl ?_
    refine T_aload_n (pc := 5) C dX2_rideAll_5 rfl 1 rfl ?_
    refine Tc_geti (pc := 6) C r1 8 2 10 k1 (by decide) (fun _ => rfl) rfl inX8 (by decide) rfl kc_176 dX2_rideAll_6 (fun z6 => ?_)
    refine T_icmp_ge (pc := 9) C 47 dX2_rideAll_9 rfl h4 z6.1 (fun c7 => ?_) (fun c7 => ?_)
    · refine T_sub (L' := []) [] rfl ?_
      exact T_exit (fun h9 => h9 trivial)
    · refine T_aload_n (pc := 12) C dX2_rideAll_12 rfl 0 rfl ?_
      refine Tc_getr (pc := 13) C r0 2 0 2 k0 (by decide) (fun _ => rfl) rfl inX2 (by decide) (v := .ref (ad (r0 + 1))) rfl kc_177 dX2_rideAll_13 ?_
      refine T_iload (pc := 16) C dX2_rideAll_16 4 rfl ?_
      refine T_guard (fun g8 => ?_)
      refine Tc_iald (pc := 18) C (r0 + 1) 20 10 x4.toNat (kd_2 k0).1 ⟨by decide, by decide⟩ rfl g8 rfl dX2_rideAll_18 (fun z9 => ?_)
      refine T_iload_n (pc := 19) C dX2_rideAll_19 rfl 3 rfl ?_
      refine T_icmp_le (pc := 20) C 41 dX2_rideAll_20 rfl z9 h3 (fun c10 => ?_) (fun c10 => ?_)
      · refine T_iinc (pc := 41) (L' := [(4, vi (x4 + 1)), (0, .ref (ad r0)), (1, .ref (ad r1)), (2, vi x2), (3, vi x3)]) C dX2_rideAll_41 (Nat.le_of_ble_eq_true rfl) 4 rfl rfl ?_
        refine T_goto (pc := 44) C 3 dX2_rideAll_44 rfl ?_
        refine T_sub (L' := [(0, .ref (ad r0)), (1, .ref (ad r1)), (2, vi x2), (3, vi x3), (4, vi (x4 + 1))]) [1, 2, 3, 4, 0] rfl ?_
        exact ih s0 (x4 + 1) (rng_inc c7 h4 z6.1)
      · refine T_aload_n (pc := 23) C dX2_rideAll_23 rfl 1 rfl ?_
        refine T_iload_n (pc := 24) C dX2_rideAll_24 rfl 2 rfl ?_
        refine T_iload (pc := 25) C dX2_rideAll_25 4 rfl ?_
        refine T_czSip (pc := 27) zk.1 hZ C [.ref (ad r1), vi x2, vi x4] [] (fun o h9 hw => ct_X2_canRide zk N s0 r1 x2 x4 k1 h2 h4 hw o h9) kc_178 cm_X2_canRide rfl rfl (Nat.le_of_ble_eq_true rfl) (by decide) (a' := 0) (b' := 0) ⟨rfl, rfl⟩ dX2_rideAll_27 (fun v11 hv11 => ?_)
        refine T_if_eq (pc := 30) C 41 dX2_rideAll_30 rfl hv11.1 (fun c12 => ?_) (fun c12 => ?_)
        · refine T_iinc (pc := 41) (L' := [(4, vi (x4 + 1)), (0, .ref (ad r0)), (1, .ref (ad r1)), (2, vi x2), (3, vi x3)]) C dX2_rideAll_41 (Nat.le_of_ble_eq_true rfl) 4 rfl rfl ?_
          refine T_goto (pc := 44) C 3 dX2_rideAll_44 rfl ?_
          refine T_sub (L' := [(0, .ref (ad r0)), (1, .ref (ad r1)), (2, vi x2), (3, vi x3), (4, vi (x4 + 1))]) [1, 2, 3, 4, 0] rfl ?_
          exact ih s0 (x4 + 1) (rng_inc c7 h4 z6.1)
        · refine T_aload_n (pc := 33) C dX2_rideAll_33 rfl 0 rfl ?_
          refine Tc_getr (pc := 34) C r0 2 0 2 k0 (by decide) (fun _ => rfl) rfl inX2 (by decide) (v := .ref (ad (r0 + 1))) rfl kc_177 dX2_rideAll_34 ?_
          refine T_iload (pc := 37) C dX2_rideAll_37 4 rfl ?_
          refine T_iload_n (pc := 39) C dX2_rideAll_39 rfl 3 rfl ?_
          refine Tc_iast (pc := 40) C (r0 + 1) 20 10 x4.toNat (kd_2 k0).1 ⟨by decide, by decide⟩ rfl g8 rfl h3 dX2_rideAll_40 ?_
          refine T_blS (fun s13 => ?_)
          refine T_iinc (pc := 41) (L' := [(4, vi (x4 + 1)), (0, .ref (ad r0)), (1, .ref (ad r1)), (2, vi x2), (3, vi x3)]) C dX2_rideAll_41 (Nat.le_of_ble_eq_true rfl) 4 rfl rfl ?_
          refine T_goto (pc := 44) C 3 dX2_rideAll_44 rfl ?_
          refine T_sub (L' := [(0, .ref (ad r0)), (1, .ref (ad r1)), (2, vi x2), (3, vi x3), (4, vi (x4 + 1))]) [1, 2, 3, 4, 0] rfl ?_
          exact ih s13 (x4 + 1) (rng_inc c7 h4 z6.1)
def f_X2_rideAll (N : Nat) (σ : Sm) (r0 : Nat) (r1 : Nat) (x2 : Int) (x3 : Int) : Option Sm :=
  (f_X2_rideAll_3 N r0 r1 x2 x3 N σ 0).bind fun q14 => some q14
theorem ct_X2_rideAll {l : Launch} {cy : Nat → ClassId} {ad : Nat → Nat} {E : Nat → Nat → Nat} {G : va_G} {Z : vZ} (zk : Zk Z E) (N : Nat) (σ : Sm) (r0 : Nat) (r1 : Nat) (x2 : Int) (x3 : Int) (k0 : kd r0 = 2) (k1 : kd r1 = 8) (h2 : rng x2) (h3 : rng x3) (hw : wfc σ) (o : Sm) (h : f_X2_rideAll N σ r0 r1 x2 x3 = some o) : CzV Z l yX2_rideAll cX2_rideAll 5 rm_X2_rideAll (wlc cy ad E) wfc G (tyc cy) [.ref (ad r0), .ref (ad r1), vi x2, vi x3] σ o := by
  refine czV_of zk.1 (plainFor_of_name (by decide)) (Nat.le_of_ble_eq_true rfl) hw o o h (fun X Y w => EndV X Y cX2_rideAll rm_X2_rideAll w) (fun _ _ h => h) (fun X A Q hZ hX C => ?_)
  replace C : Cx X (Yc cy ad E G A 5 Q) cX2_rideAll RX2 none rm_X2_rideAll (tyc cy) := C
  replace hZ : Zx Z X (Yc cy ad E G A 5 Q) := hZ
  show T X (Yc cy ad E G A 5 Q) (fun w => EndV X (Yc cy ad E G A 5 Q) cX2_rideAll rm_X2_rideAll w) 0 0 0 [(0, .ref (ad r0)), (1, .ref (ad r1)), (2, vi x2), (3, vi x3)] [] σ (f_X2_rideAll N σ r0 r1 x2 x3)
  unfold f_X2_rideAll
  refine T_iconst (pc := 0) C dX2_rideAll_0 ?_
  refine T_istore (pc := 1) (L' := [(4, vi 0), (0, .ref (ad r0)), (1, .ref (ad r1)), (2, vi x2), (3, vi x3)]) C dX2_rideAll_1 (Nat.le_of_ble_eq_true rfl) rfl ?_
  refine T_sub (L' := [(0, .ref (ad r0)), (1, .ref (ad r1)), (2, vi x2), (3, vi x3), (4, vi 0)]) [1, 2, 3, 4, 0] rfl ?_
  refine T_loopE (lp_X2_rideAll_3 zk hZ C N r0 r1 k0 k1 x2 x3 h2 h3 N σ 0 (rngL rfl)) (fun q14 hq14 => ?_)
  exact T_vret (pc := 47) q14 (fun h9 => h9) (by decide) dX2_rideAll_47

abbrev rm_X2_walkAll : Room := ⟨2, 0, 0, 44⟩
theorem cm_X2_walkAll : cmV yX2_walkAll cX2_walkAll 7 none 2 := ⟨kc_11, kc_174, ⟨by decide +kernel, by decide +kernel, by decide +kernel⟩, kc_182, kc_183⟩
def f_X2_walkAll_33 (r0 : Nat) (r1 : Nat) (x2 : Int) (x4 : Int) (x5 : Int) : Nat → Sm → Int → Int → Option (Sm × Int)
  | 0, _, _, _ => none
  | n + 1, s0, x3, x6 => (if (s0 r1 2) ≤ x6 then some (s0, x3) else if 0 ≤ x5 ∧ x5 < 10 then (if (s0 (r0 + 1) x5.toNat) = x2 then (f_X8_canWalk s0 r1 x5 x6).bind fun v83 => (if v83 = 0 then f_X2_walkAll_33 r0 r1 x2 x4 x5 n s0 x3 (x6 + 1) else if 0 ≤ x6 ∧ x6 < 10 then (if (s0 (r0 + 1) x6.toNat) ≤ x2 then f_X2_walkAll_33 r0 r1 x2 x4 x5 n s0 x3 (x6 + 1) else bl (upm s0 (r0 + 1) x6.toNat x2) fun s88 => f_X2_walkAll_33 r0 r1 x2 x4 x5 n s88 1 (x6 + 1)) else none) else some (s0, x3)) else none)
theorem lp_X2_walkAll_33 {X : vjX} {A : Nat → Prop} {Q : State → Prop} {cy : Nat → ClassId} {ad : Nat → Nat} {E : Nat → Nat → Nat} {G : va_G} {Z : vZ} (zk : Zk Z E) (hZ : Zx Z X (Yc cy ad E G A 7 Q)) (C : Cx X (Yc cy ad E G A 7 Q) cX2_walkAll RX2 none rm_X2_walkAll (tyc cy)) (r0 : Nat) (r1 : Nat) (k0 : kd r0 = 2) (k1 : kd r1 = 8) (x2 : Int) (x4 : Int) (x5 : Int) (h2 : rng x2) (h4 : rng x4) (h5 : rng x5) : ∀ (n : Nat) (s0 : Sm) (x3 : Int) (x6 : Int) (h3 : bit x3) (h6 : rng x6), T X (Yc cy ad E G A 7 Q) (fun (q : Sm × Int) => bit q.2 → J X (Yc cy ad E G A 7 Q) 0 0 91 [(0, .ref (ad r0)), (1, .ref (ad r1)), (2, vi x2), (3, vi q.2), (4, vi x4), (5, vi x5)] [] q.1) 0 0 33 [(0, .ref (ad r0)), (1, .ref (ad r1)), (2, vi x2), (3, vi x3), (4, vi x4), (5, vi x5), (6, vi x6)] [] s0 (f_X2_walkAll_33 r0 r1 x2 x4 x5 n s0 x3 x6) := by
  intro n
  induction n with
  | zero => intro s0 x3 x6 h3 h6; exact T_none
  | succ n ih =>
    intro s0 x3 x6 h3 h6
    rw [f_X2_walkAll_33]
    refine T_iload (pc := 33) C dX2_walkAll_33 6 rfl ?_
    refine T_aload_n (pc := 35) C dX2_walkAll_35 rfl 1 rfl ?_
    refine Tc_geti (pc := 36) C r1 8 2 10 k1 (by decide) (fun _ => rfl) rfl inX8 (by decide) rfl kc_176 dX2_walkAll_36 (fun z78 => ?_)
    refine T_icmp_ge (pc := 39) C 91 dX2_walkAll_39 rfl h6 z78.1 (fun c79 => ?_) (fun c79 => ?_)
    · refine T_sub (L' := [(0, .ref (ad r0)), (1, .ref (ad r1)), (2, vi x2), (3, vi x3), (4, vi x4), (5, vi x5)]) [0, 1, 2, 3, 4, 5] rfl ?_
      exact T_exit (fun h9 => h9 h3)
    · refine T_aload_n (pc := 42) C dX2_walkAll_42 rfl 0 rfl ?_
      refine Tc_getr (pc := 43) C r0 2 0 2 k0 (by decide) (fun _ => rfl) rfl inX2 (by decide) (v := .ref (ad (r0 + 1))) rfl kc_177 dX2_walkAll_43 ?_
      refine T_iload (pc := 46) C dX2_walkAll_46 5 rfl ?_
      refine T_guard (fun g80 => ?_)
      refine Tc_iald (pc := 48) C (r0 + 1) 20 10 x5.toNat (kd_2 k0).1 ⟨by decide, by decide⟩ rfl g80 rfl dX2_walkAll_48 (fun z81 => ?_)
      refine T_iload_n (pc := 49) C dX2_walkAll_49 rfl 2 rfl ?_
      refine T_icmp_ne (pc := 50) C 91 dX2_walkAll_50 rfl z81 h2 (fun c82 => ?_) (fun c82 => ?_)
      · refine T_sub (L' := [(0, .ref (ad r0)), (1, .ref (ad r1)), (2, vi x2), (3, vi x3), (4, vi x4), (5, vi x5)]) [0, 1, 2, 3, 4, 5] rfl ?_
        exact T_exit (fun h9 => h9 h3)
      · refine T_aload_n (pc := 53) C dX2_walkAll_53 rfl 1 rfl ?_
        refine T_iload (pc := 54) C dX2_walkAll_54 5 rfl ?_
        refine T_iload (pc := 56) C dX2_walkAll_56 6 rfl ?_
        refine T_czVip (pc := 58) zk.1 hZ C [vi x5, vi x6] [] (fun o h9 hw => ct_X8_canWalk zk s0 r1 x5 x6 k1 h5 h6 hw o h9) kc_181 cm_X8_canWalk (rcc k1 (by decide) (fun _ => rfl) rfl) rfl rfl (Nat.le_of_ble_eq_true rfl) (by decide) (a' := 0) (b' := 0) ⟨rfl, rfl⟩ dX2_walkAll_58 (fun v83 hv83 => ?_)
        refine T_if_eq (pc := 61) C 85 dX2_walkAll_61 rfl hv83.1 (fun c84 => ?_) (fun c84 => ?_)
        · refine T_iinc (pc := 85) (L' := [(6, vi (x6 + 1)), (0, .ref (ad r0)), (1, .ref (ad r1)), (2, vi x2), (3, vi x3), (4, vi x4), (5, vi x5)]) C dX2_walkAll_85 (Nat.le_of_ble_eq_true rfl) 6 rfl rfl ?_
          refine T_goto (pc := 88) C 33 dX2_walkAll_88 rfl ?_
          refine T_sub (L' := [(0, .ref (ad r0)), (1, .ref (ad r1)), (2, vi x2), (3, vi x3), (4, vi x4), (5, vi x5), (6, vi (x6 + 1))]) [1, 2, 3, 4, 5, 6, 0] rfl ?_
          exact ih s0 x3 (x6 + 1) h3 (rng_inc c79 h6 z78.1)
        · refine T_aload_n (pc := 64) C dX2_walkAll_64 rfl 0 rfl ?_
          refine Tc_getr (pc := 65) C r0 2 0 2 k0 (by decide) (fun _ => rfl) rfl inX2 (by decide) (v := .ref (ad (r0 + 1))) rfl kc_177 dX2_walkAll_65 ?_
          refine T_iload (pc := 68) C dX2_walkAll_68 6 rfl ?_
          refine T_guard (fun g85 => ?_)
          refine Tc_iald (pc := 70) C (r0 + 1) 20 10 x6.toNat (kd_2 k0).1 ⟨by decide, by decide⟩ rfl g85 rfl dX2_walkAll_70 (fun z86 => ?_)
          refine T_iload_n (pc := 71) C dX2_walkAll_71 rfl 2 rfl ?_
          refine T_icmp_le (pc := 72) C 85 dX2_walkAll_72 rfl z86 h2 (fun c87 => ?_) (fun c87 => ?_)
          · refine T_iinc (pc := 85) (L' := [(6, vi (x6 + 1)), (0, .ref (ad r0)), (1, .ref (ad r1)), (2, vi x2), (3, vi x3), (4, vi x4), (5, vi x5)]) C dX2_walkAll_85 (Nat.le_of_ble_eq_true rfl) 6 rfl rfl ?_
            refine T_goto (pc := 88) C 33 dX2_walkAll_88 rfl ?_
            refine T_sub (L' := [(0, .ref (ad r0)), (1, .ref (ad r1)), (2, vi x2), (3, vi x3), (4, vi x4), (5, vi x5), (6, vi (x6 + 1))]) [1, 2, 3, 4, 5, 6, 0] rfl ?_
            exact ih s0 x3 (x6 + 1) h3 (rng_inc c79 h6 z78.1)
          · refine T_aload_n (pc := 75) C dX2_walkAll_75 rfl 0 rfl ?_
            refine Tc_getr (pc := 76) C r0 2 0 2 k0 (by decide) (fun _ => rfl) rfl inX2 (by decide) (v := .ref (ad (r0 + 1))) rfl kc_177 dX2_walkAll_76 ?_
            refine T_iload (pc := 79) C dX2_walkAll_79 6 rfl ?_
            refine T_iload_n (pc := 81) C dX2_walkAll_81 rfl 2 rfl ?_
            refine Tc_iast (pc := 82) C (r0 + 1) 20 10 x6.toNat (kd_2 k0).1 ⟨by decide, by decide⟩ rfl g85 rfl h2 dX2_walkAll_82 ?_
            refine T_blS (fun s88 => ?_)
            refine T_iconst (pc := 83) C dX2_walkAll_83 ?_
            refine T_istore_n (pc := 84) (L' := [(3, vi 1), (0, .ref (ad r0)), (1, .ref (ad r1)), (2, vi x2), (4, vi x4), (5, vi x5), (6, vi x6)]) C dX2_walkAll_84 rfl (Nat.le_of_ble_eq_true rfl) rfl ?_
            refine T_iinc (pc := 85) (L' := [(6, vi (x6 + 1)), (3, vi 1), (0, .ref (ad r0)), (1, .ref (ad r1)), (2, vi x2), (4, vi x4), (5, vi x5)]) C dX2_walkAll_85 (Nat.le_of_ble_eq_true rfl) 6 rfl rfl ?_
            refine T_goto (pc := 88) C 33 dX2_walkAll_88 rfl ?_
            refine T_sub (L' := [(0, .ref (ad r0)), (1, .ref (ad r1)), (2, vi x2), (3, vi 1), (4, vi x4), (5, vi x5), (6, vi (x6 + 1))]) [2, 3, 4, 1, 5, 6, 0] rfl ?_
            exact ih s88 1 (x6 + 1) (Or.inr rfl) (rng_inc c79 h6 z78.1)
def f_X2_walkAll_21 (N : Nat) (r0 : Nat) (r1 : Nat) (x2 : Int) (x4 : Int) : Nat → Sm → Int → Int → Option (Sm × Int)
  | 0, _, _, _ => none
  | n + 1, s0, x3, x5 => (if (s0 r1 2) ≤ x5 then some (s0, x3) else (f_X2_walkAll_33 r0 r1 x2 x4 x5 N s0 x3 0).bind fun q89 => f_X2_walkAll_21 N r0 r1 x2 x4 n q89.1 q89.2 (x5 + 1))
theorem lp_X2_walkAll_21 {X : vjX} {A : Nat → Prop} {Q : State → Prop} {cy : Nat → ClassId} {ad : Nat → Nat} {E : Nat → Nat → Nat} {G : va_G} {Z : vZ} (zk : Zk Z E) (hZ : Zx Z X (Yc cy ad E G A 7 Q)) (C : Cx X (Yc cy ad E G A 7 Q) cX2_walkAll RX2 none rm_X2_walkAll (tyc cy)) (N : Nat) (r0 : Nat) (r1 : Nat) (k0 : kd r0 = 2) (k1 : kd r1 = 8) (x2 : Int) (x4 : Int) (h2 : rng x2) (h4 : rng x4) : ∀ (n : Nat) (s0 : Sm) (x3 : Int) (x5 : Int) (h3 : bit x3) (h5 : rng x5), T X (Yc cy ad E G A 7 Q) (fun (q : Sm × Int) => bit q.2 → J X (Yc cy ad E G A 7 Q) 0 0 97 [(0, .ref (ad r0)), (1, .ref (ad r1)), (2, vi x2), (3, vi q.2), (4, vi x4)] [] q.1) 0 0 21 [(0, .ref (ad r0)), (1, .ref (ad r1)), (2, vi x2), (3, vi x3), (4, vi x4), (5, vi x5)] [] s0 (f_X2_walkAll_21 N r0 r1 x2 x4 n s0 x3 x5) := by
  intro n
  induction n with
  | zero => intro s0 x3 x5 h3 h5; exact T_none
  | succ n ih =>
    intro s0 x3 x5 h3 h5
    rw [f_X2_walkAll_21]
    refine T_iload (pc := 21) C dX2_walkAll_21 5 rfl ?_
    refine T_aload_n (pc := 23) C dX2_walkAll_23 rfl 1 rfl ?_
    refine Tc_geti (pc := 24) C r1 8 2 10 k1 (by decide) (fun _ => rfl) rfl inX8 (by decide) rfl kc_176 dX2_walkAll_24 (fun z69 => ?_)
    refine T_icmp_ge (pc := 27) C 97 dX2_walkAll_27 rfl h5 z69.1 (fun c70 => ?_) (fun c70 => ?_)
    · refine T_sub (L' := [(0, .ref (ad r0)), (1, .ref (ad r1)), (2, vi x2), (3, vi x3), (4, vi x4)]) [0, 1, 2, 3, 4] rfl ?_
      exact T_exit (fun h9 => h9 h3)
    · refine T_iconst (pc := 30) C dX2_walkAll_30 ?_
      refine T_istore (pc := 31) (L' := [(6, vi 0), (0, .ref (ad r0)), (1, .ref (ad r1)), (2, vi x2), (3, vi x3), (4, vi x4), (5, vi x5)]) C dX2_walkAll_31 (Nat.le_of_ble_eq_true rfl) rfl ?_
      refine T_sub (L' := [(0, .ref (ad r0)), (1, .ref (ad r1)), (2, vi x2), (3, vi x3), (4, vi x4), (5, vi x5), (6, vi 0)]) [1, 2, 3, 4, 5, 6, 0] rfl ?_
      refine T_loopE (lp_X2_walkAll_33 zk hZ C r0 r1 k0 k1 x2 x4 x5 h2 h4 h5 N s0 x3 0 h3 (rngL rfl)) (fun q89 hq89 => ?_)
      refine T_iinc (pc := 91) (L' := [(5, vi (x5 + 1)), (0, .ref (ad r0)), (1, .ref (ad r1)), (2, vi x2), (3, vi q89.2), (4, vi x4)]) C dX2_walkAll_91 (Nat.le_of_ble_eq_true rfl) 5 rfl rfl ?_
      refine T_goto (pc := 94) C 21 dX2_walkAll_94 rfl ?_
      refine T_sub (L' := [(0, .ref (ad r0)), (1, .ref (ad r1)), (2, vi x2), (3, vi q89.2), (4, vi x4), (5, vi (x5 + 1))]) [1, 2, 3, 4, 5, 0] rfl ?_
      exact ih q89.1 q89.2 (x5 + 1) hq89 (rng_inc c70 h5 z69.1)
def f_X2_walkAll_5 (N : Nat) (r0 : Nat) (r1 : Nat) (x2 : Int) : Nat → Sm → Int → Int → Option (Sm)
  | 0, _, _, _ => none
  | n + 1, s0, x3, x4 => (if 10 < x4 then some s0 else (if x3 = 0 then some s0 else (f_X2_walkAll_21 N r0 r1 x2 x4 N s0 0 0).bind fun q90 => f_X2_walkAll_5 N r0 r1 x2 n q90.1 q90.2 (x4 + 1)))
theorem lp_X2_walkAll_5 {X : vjX} {A : Nat → Prop} {Q : State → Prop} {cy : Nat → ClassId} {ad : Nat → Nat} {E : Nat → Nat → Nat} {G : va_G} {Z : vZ} (zk : Zk Z E) (hZ : Zx Z X (Yc cy ad E G A 7 Q)) (C : Cx X (Yc cy ad E G A 7 Q) cX2_walkAll RX2 none rm_X2_walkAll (tyc cy)) (N : Nat) (r0 : Nat) (r1 : Nat) (k0 : kd r0 = 2) (k1 : kd r1 = 8) (x2 : Int) (h2 : rng x2) : ∀ (n : Nat) (s0 : Sm) (x3 : Int) (x4 : Int) (h3 : bit x3) (h4 : rng x4), T X (Yc cy ad E G A 7 Q) (fun (q : Sm) => True → J X (Yc cy ad E G A 7 Q) 0 0 103 [] [] q) 0 0 5 [(0, .ref (ad r0)), (1, .ref (ad r1)), (2, vi x2), (3, vi x3), (4, vi x4)] [] s0 (f_X2_walkAll_5 N r0 r1 x2 n s0 x3 x4) := by
  intro n
  induction n with
  | zero => intro s0 x3 x4 h3 h4; exact T_none
  | succ n ih =>
    intro s0 x3 x4 h3 h4
    rw [f_X2_walkAll_5]
    refine T_iload (pc := 5) C dX2_walkAll_5 4 rfl ?_
    refine T_bipush (pc := 7) C dX2_walkAll_7 (by decide) ?_
    refine T_icmp_gt (pc := 9) C 103 dX2_walkAll_9 rfl h4 (rngL rfl) (fun c46 => ?_) (fun c46 => ?_)
    · refine T_sub (L' := []) [] rfl ?_
      exact T_exit (fun h9 => h9 trivial)
    · refine T_iload_n (pc := 12) C dX2_walkAll_12 rfl 3 rfl ?_
      refine T_if_eq (pc := 13) C 103 dX2_walkAll_13 rfl (bit_rng h3) (fun c47 => ?_) (fun c47 => ?_)
      · refine T_sub (L' := []) [] rfl ?_
        exact T_exit (fun h9 => h9 trivial)
      · refine T_iconst (pc := 16) C dX2_walkAll_16 ?_
        refine T_istore_n (pc := 17) (L' := [(3, vi 0), (0, .ref (ad r0)), (1, .ref (ad r1)), (2, vi x2), (4, vi x4)]) C dX2_walkAll_17 rfl (Nat.le_of_ble_eq_true rfl) rfl ?_
        refine T_iconst (pc := 18) C dX2_walkAll_18 ?_
        refine T_istore (pc := 19) (L' := [(5, vi 0), (3, vi 0), (0, .ref (ad r0)), (1, .ref (ad r1)), (2, vi x2), (4, vi x4)]) C dX2_walkAll_19 (Nat.le_of_ble_eq_true rfl) rfl ?_
        refine T_sub (L' := [(0, .ref (ad r0)), (1, .ref (ad r1)), (2, vi x2), (3, vi 0), (4, vi x4), (5, vi 0)]) [2, 3, 4, 1, 5, 0] rfl ?_
        refine T_loopE (lp_X2_walkAll_21 zk hZ C N r0 r1 k0 k1 x2 x4 h2 h4 N s0 0 0 (Or.inl rfl) (rngL rfl)) (fun q90 hq90 => ?_)
        refine T_iinc (pc := 97) (L' := [(4, vi (x4 + 1)), (0, .ref (ad r0)), (1, .ref (ad r1)), (2, vi x2), (3, vi q90.2)]) C dX2_walkAll_97 (Nat.le_of_ble_eq_true rfl) 4 rfl rfl ?_
        refine T_goto (pc := 100) C 5 dX2_walkAll_100 rfl ?_
        refine T_sub (L' := [(0, .ref (ad r0)), (1, .ref (ad r1)), (2, vi x2), (3, vi q90.2), (4, vi (x4 + 1))]) [1, 2, 3, 4, 0] rfl ?_
        exact ih q90.1 q90.2 (x4 + 1) hq90 (rng_incl c46 h4 (by decide))
def f_X2_walkAll (N : Nat) (σ : Sm) (r0 : Nat) (r1 : Nat) (x2 : Int) : Option Sm :=
  (f_X2_walkAll_5 N r0 r1 x2 N σ 1 0).bind fun q91 => some q91
theorem ct_X2_walkAll {l : Launch} {cy : Nat → ClassId} {ad : Nat → Nat} {E : Nat → Nat → Nat} {G : va_G} {Z : vZ} (zk : Zk Z E) (N : Nat) (σ : Sm) (r0 : Nat) (r1 : Nat) (x2 : Int) (k0 : kd r0 = 2) (k1 : kd r1 = 8) (h2 : rng x2) (hw : wfc σ) (o : Sm) (h : f_X2_walkAll N σ r0 r1 x2 = some o) : CzV Z l yX2_walkAll cX2_walkAll 7 rm_X2_walkAll (wlc cy ad E) wfc G (tyc cy) [.ref (ad r0), .ref (ad r1), vi x2] σ o := by
  refine czV_of zk.1 (plainFor_of_name (by decide)) (Nat.le_of_ble_eq_true rfl) hw o o h (fun X Y w => EndV X Y cX2_walkAll rm_X2_walkAll w) (fun _ _ h => h) (fun X A Q hZ hX C => ?_)
  replace C : Cx X (Yc cy ad E G A 7 Q) cX2_walkAll RX2 none rm_X2_walkAll (tyc cy) := C
  replace hZ : Zx Z X (Yc cy ad E G A 7 Q) := hZ
  show T X (Yc cy ad E G A 7 Q) (fun w => EndV X (Yc cy ad E G A 7 Q) cX2_walkAll rm_X2_walkAll w) 0 0 0 [(0, .ref (ad r0)), (1, .ref (ad r1)), (2, vi x2)] [] σ (f_X2_walkAll N σ r0 r1 x2)
  unfold f_X2_walkAll
  refine T_iconst (pc := 0) C dX2_walkAll_0 ?_
  refine T_istore_n (pc := 1) (L' := [(3, vi 1), (0, .ref (ad r0)), (1, .ref (ad r1)), (2, vi x2)]) C dX2_walkAll_1 rfl (Nat.le_of_ble_eq_true rfl) rfl ?_
  refine T_iconst (pc := 2) C dX2_walkAll_2 ?_
  refine T_istore (pc := 3) (L' := [(4, vi 0), (3, vi 1), (0, .ref (ad r0)), (1, .ref (ad r1)), (2, vi x2)]) C dX2_walkAll_3 (Nat.le_of_ble_eq_true rfl) rfl ?_
  refine T_sub (L' := [(0, .ref (ad r0)), (1, .ref (ad r1)), (2, vi x2), (3, vi 1), (4, vi 0)]) [2, 3, 4, 1, 0] rfl ?_
  refine T_loopE (lp_X2_walkAll_5 zk hZ C N r0 r1 k0 k1 x2 h2 N σ 1 0 (Or.inr rfl) (rngL rfl)) (fun q91 hq91 => ?_)
  exact T_vret (pc := 103) q91 (fun h9 => h9) (by decide) dX2_walkAll_103

abbrev rm_X2_searchRounds : Room := ⟨3, 0, 0, 72⟩
theorem cm_X2_searchRounds : cmV yX2_searchRounds cX2_searchRounds 5 none 2 := ⟨kc_8, kc_174, ⟨by decide +kernel, by decide +kernel, by decide +kernel⟩, kc_188, kc_189⟩
def f_X2_searchRounds_33 (N : Nat) (r0 : Nat) (r1 : Nat) (x3 : Int) : Nat → Sm → Int → Option (Sm)
  | 0, _, _ => none
  | n + 1, s0, x4 => (if (s0 r1 2) ≤ x4 then some s0 else if 0 ≤ x4 ∧ x4 < 10 then (if (s0 (r0 + 1) x4.toNat) = x3 then if rng (x3 + 1) then (f_X2_rideAll N s0 r0 r1 x4 (x3 + 1)).bind fun s32 => f_X2_searchRounds_33 N r0 r1 x3 n s32 (x4 + 1) else none else f_X2_searchRounds_33 N r0 r1 x3 n s0 (x4 + 1)) else none)
theorem lp_X2_searchRounds_33 {X : vjX} {A : Nat → Prop} {Q : State → Prop} {cy : Nat → ClassId} {ad : Nat → Nat} {E : Nat → Nat → Nat} {G : va_G} {Z : vZ} (zk : Zk Z E) (hZ : Zx Z X (Yc cy ad E G A 5 Q)) (C : Cx X (Yc cy ad E G A 5 Q) cX2_searchRounds RX2 none rm_X2_searchRounds (tyc cy)) (N : Nat) (r0 : Nat) (r1 : Nat) (k0 : kd r0 = 2) (k1 : kd r1 = 8) (x3 : Int) (h3 : rng x3) : ∀ (n : Nat) (s0 : Sm) (x4 : Int) (h4 : rng x4), T X (Yc cy ad E G A 5 Q) (fun (q : Sm) => True → J X (Yc cy ad E G A 5 Q) 0 0 69 [(0, .ref (ad r0)), (1, .ref (ad r1)), (3, vi x3)] [] q) 0 0 33 [(0, .ref (ad r0)), (1, .ref (ad r1)), (3, vi x3), (4, vi x4)] [] s0 (f_X2_searchRounds_33 N r0 r1 x3 n s0 x4) := by
  intro n
  induction n with
  | zero => intro s0 x4 h4; exact T_none
  | succ n ih =>
    intro s0 x4 h4
    rw [f_X2_searchRounds_33]
    refine T_iload (pc := 33) C dX2_searchRounds_33 3 rfl ?_
    refine T_aload_n (pc := 35) C dX2_searchRounds_35 rfl 1 rfl ?_
    refine Tc_geti (pc := 36) C r1 8 2 10 k1 (by decide) (fun _ => rfl) rfl inX8 (by decide) rfl kc_176 dX2_searchRounds_36 (fun z26 => ?_)
    refine T_icmp_ge (pc := 39) C 69 dX2_searchRounds_39 rfl h4 z26.1 (fun c27 => ?_) (fun c27 => ?_)
    · refine T_sub (L' := [(0, .ref (ad r0)), (1, .ref (ad r1)), (3, vi x3)]) [0, 1, 2] rfl ?_
      exact T_exit (fun h9 => h9 trivial)
    · refine T_aload_n (pc := 42) C dX2_searchRounds_42 rfl 0 rfl ?_
      refine Tc_getr (pc := 43) C r0 2 0 2 k0 (by decide) (fun _ => rfl) rfl inX2 (by decide) (v := .ref (ad (r0 + 1))) rfl kc_177 dX2_searchRounds_43 ?_
      refine T_iload (pc := 46) C dX2_searchRounds_46 3 rfl ?_
      refine T_guard (fun g28 => ?_)
      refine Tc_iald (pc := 48) C (r0 + 1) 20 10 x4.toNat (kd_2 k0).1 ⟨by decide, by decide⟩ rfl g28 rfl dX2_searchRounds_48 (fun z29 => ?_)
      refine T_iload_n (pc := 49) C dX2_searchRounds_49 rfl 2 rfl ?_
      refine T_icmp_ne (pc := 50) C 63 dX2_searchRounds_50 rfl z29 h3 (fun c30 => ?_) (fun c30 => ?_)
      · refine T_iinc (pc := 63) (L' := [(4, vi (x4 + 1)), (0, .ref (ad r0)), (1, .ref (ad r1)), (3, vi x3)]) C dX2_searchRounds_63 (Nat.le_of_ble_eq_true rfl) 3 rfl rfl ?_
        refine T_goto (pc := 66) C 33 dX2_searchRounds_66 rfl ?_
        refine T_sub (L' := [(0, .ref (ad r0)), (1, .ref (ad r1)), (3, vi x3), (4, vi (x4 + 1))]) [1, 2, 3, 0] rfl ?_
        exact ih s0 (x4 + 1) (rng_inc c27 h4 z26.1)
      · refine T_aload_n (pc := 53) C dX2_searchRounds_53 rfl 0 rfl ?_
        refine T_aload_n (pc := 54) C dX2_searchRounds_54 rfl 1 rfl ?_
        refine T_iload (pc := 55) C dX2_searchRounds_55 3 rfl ?_
        refine T_iload_n (pc := 57) C dX2_searchRounds_57 rfl 2 rfl ?_
        refine T_iconst (pc := 58) C dX2_searchRounds_58 ?_
        refine T_iadd (pc := 59) C dX2_searchRounds_59 ?_
        refine T_guard (fun g31 => ?_)
        refine T_czVv (pc := 60) zk.1 hZ C [.ref (ad r1), vi x4, vi (x3 + 1)] [] (fun o h9 hw => ct_X2_rideAll zk N s0 r0 r1 x4 (x3 + 1) k0 k1 h4 g31 hw o h9) kc_187 cm_X2_rideAll (rcc k0 (by decide) (fun _ => rfl) rfl) rfl rfl (Nat.le_of_ble_eq_true rfl) (by decide) (a' := 0) (b' := 0) ⟨rfl, rfl⟩ dX2_searchRounds_60 (fun s32 => ?_)
        refine T_iinc (pc := 63) (L' := [(4, vi (x4 + 1)), (0, .ref (ad r0)), (1, .ref (ad r1)), (3, vi x3)]) C dX2_searchRounds_63 (Nat.le_of_ble_eq_true rfl) 3 rfl rfl ?_
        refine T_goto (pc := 66) C 33 dX2_searchRounds_66 rfl ?_
        refine T_sub (L' := [(0, .ref (ad r0)), (1, .ref (ad r1)), (3, vi x3), (4, vi (x4 + 1))]) [1, 2, 3, 0] rfl ?_
        exact ih s32 (x4 + 1) (rng_inc c27 h4 z26.1)
def f_X2_searchRounds_18 (N : Nat) (r0 : Nat) (r1 : Nat) : Nat → Sm → Int → Option (Sm)
  | 0, _, _ => none
  | n + 1, s0, x3 => (if 10 ≤ x3 then some s0 else (f_X2_walkAll N s0 r0 r1 x3).bind fun s20 => (f_X2_searchRounds_33 N r0 r1 x3 N s20 0).bind fun q33 => f_X2_searchRounds_18 N r0 r1 n q33 (x3 + 1))
theorem lp_X2_searchRounds_18 {X : vjX} {A : Nat → Prop} {Q : State → Prop} {cy : Nat → ClassId} {ad : Nat → Nat} {E : Nat → Nat → Nat} {G : va_G} {Z : vZ} (zk : Zk Z E) (hZ : Zx Z X (Yc cy ad E G A 5 Q)) (C : Cx X (Yc cy ad E G A 5 Q) cX2_searchRounds RX2 none rm_X2_searchRounds (tyc cy)) (N : Nat) (r0 : Nat) (r1 : Nat) (k0 : kd r0 = 2) (k1 : kd r1 = 8) : ∀ (n : Nat) (s0 : Sm) (x3 : Int) (h3 : rng x3), T X (Yc cy ad E G A 5 Q) (fun (q : Sm) => True → J X (Yc cy ad E G A 5 Q) 0 0 75 [] [] q) 0 0 18 [(0, .ref (ad r0)), (1, .ref (ad r1)), (3, vi x3)] [] s0 (f_X2_searchRounds_18 N r0 r1 n s0 x3) := by
  intro n
  induction n with
  | zero => intro s0 x3 h3; exact T_none
  | succ n ih =>
    intro s0 x3 h3
    rw [f_X2_searchRounds_18]
    refine T_iload_n (pc := 18) C dX2_searchRounds_18 rfl 2 rfl ?_
    refine T_bipush (pc := 19) C dX2_searchRounds_19 (by decide) ?_
    refine T_icmp_ge (pc := 21) C 75 dX2_searchRounds_21 rfl h3 (rngL rfl) (fun c19 => ?_) (fun c19 => ?_)
    · refine T_sub (L' := []) [] rfl ?_
      exact T_exit (fun h9 => h9 trivial)
    · refine T_aload_n (pc := 24) C dX2_searchRounds_24 rfl 0 rfl ?_
      refine T_aload_n (pc := 25) C dX2_searchRounds_25 rfl 1 rfl ?_
      refine T_iload_n (pc := 26) C dX2_searchRounds_26 rfl 2 rfl ?_
      refine T_czVv (pc := 27) zk.1 hZ C [.ref (ad r1), vi x3] [] (fun o h9 hw => ct_X2_walkAll zk N s0 r0 r1 x3 k0 k1 h3 hw o h9) kc_186 cm_X2_walkAll (rcc k0 (by decide) (fun _ => rfl) rfl) rfl rfl (Nat.le_of_ble_eq_true rfl) (by decide) (a' := 0) (b' := 0) ⟨rfl, rfl⟩ dX2_searchRounds_27 (fun s20 => ?_)
      refine T_iconst (pc := 30) C dX2_searchRounds_30 ?_
      refine T_istore (pc := 31) (L' := [(4, vi 0), (0, .ref (ad r0)), (1, .ref (ad r1)), (3, vi x3)]) C dX2_searchRounds_31 (Nat.le_of_ble_eq_true rfl) rfl ?_
      refine T_sub (L' := [(0, .ref (ad r0)), (1, .ref (ad r1)), (3, vi x3), (4, vi 0)]) [1, 2, 3, 0] rfl ?_
      refine T_loopE (lp_X2_searchRounds_33 zk hZ C N r0 r1 k0 k1 x3 h3 N s20 0 (rngL rfl)) (fun q33 hq33 => ?_)
      refine T_iinc (pc := 69) (L' := [(3, vi (x3 + 1)), (0, .ref (ad r0)), (1, .ref (ad r1))]) C dX2_searchRounds_69 (Nat.le_of_ble_eq_true rfl) 2 rfl rfl ?_
      refine T_goto (pc := 72) C 18 dX2_searchRounds_72 rfl ?_
      refine T_sub (L' := [(0, .ref (ad r0)), (1, .ref (ad r1)), (3, vi (x3 + 1))]) [1, 2, 0] rfl ?_
      exact ih q33 (x3 + 1) (rng_inc c19 h3 (rngL rfl))
def f_X2_searchRounds (N : Nat) (σ : Sm) (r0 : Nat) (r1 : Nat) (x2 : Int) : Option Sm :=
  (f_J7_fill_53178 N σ (r0 + 1) 20 1000000000).bind fun s1 => if 0 ≤ x2 ∧ x2 < 10 then bl (upm s1 (r0 + 1) x2.toNat 0) fun s3 => (f_X2_searchRounds_18 N r0 r1 N s3 0).bind fun q34 => some q34 else none
theorem ct_X2_searchRounds {l : Launch} {cy : Nat → ClassId} {ad : Nat → Nat} {E : Nat → Nat → Nat} {G : va_G} {Z : vZ} (zk : Zk Z E) (N : Nat) (σ : Sm) (r0 : Nat) (r1 : Nat) (x2 : Int) (k0 : kd r0 = 2) (k1 : kd r1 = 8) (h2 : rng x2) (hw : wfc σ) (o : Sm) (h : f_X2_searchRounds N σ r0 r1 x2 = some o) : CzV Z l yX2_searchRounds cX2_searchRounds 5 rm_X2_searchRounds (wlc cy ad E) wfc G (tyc cy) [.ref (ad r0), .ref (ad r1), vi x2] σ o := by
  refine czV_of zk.1 (plainFor_of_name (by decide)) (Nat.le_of_ble_eq_true rfl) hw o o h (fun X Y w => EndV X Y cX2_searchRounds rm_X2_searchRounds w) (fun _ _ h => h) (fun X A Q hZ hX C => ?_)
  replace C : Cx X (Yc cy ad E G A 5 Q) cX2_searchRounds RX2 none rm_X2_searchRounds (tyc cy) := C
  replace hZ : Zx Z X (Yc cy ad E G A 5 Q) := hZ
  show T X (Yc cy ad E G A 5 Q) (fun w => EndV X (Yc cy ad E G A 5 Q) cX2_searchRounds rm_X2_searchRounds w) 0 0 0 [(0, .ref (ad r0)), (1, .ref (ad r1)), (2, vi x2)] [] σ (f_X2_searchRounds N σ r0 r1 x2)
  unfold f_X2_searchRounds
  refine T_aload_n (pc := 0) C dX2_searchRounds_0 rfl 0 rfl ?_
  refine Tc_getr (pc := 1) C r0 2 0 2 k0 (by decide) (fun _ => rfl) rfl inX2 (by decide) (v := .ref (ad (r0 + 1))) rfl kc_177 dX2_searchRounds_1 ?_
  refine T_ldc (pc := 4) C 1000000000 dX2_searchRounds_4 kc_184 (by decide) ?_
  refine T_czSv (pc := 6) zk.1 hZ C [.ref (ad (r0 + 1)), vi 1000000000] [] (fun o h9 hw => ct_J7_fill_53178 zk N σ (r0 + 1) 20 1000000000 (kd_2 k0).1 ⟨by decide, by decide⟩ (rngL rfl) hw o h9) kc_185 cm_J7_fill_53178 rfl rfl (Nat.le_of_ble_eq_true rfl) (by decide) (a' := 0) (b' := 0) ⟨rfl, rfl⟩ dX2_searchRounds_6 (fun s1 => ?_)
  refine T_aload_n (pc := 9) C dX2_searchRounds_9 rfl 0 rfl ?_
  refine Tc_getr (pc := 10) C r0 2 0 2 k0 (by decide) (fun _ => rfl) rfl inX2 (by decide) (v := .ref (ad (r0 + 1))) rfl kc_177 dX2_searchRounds_10 ?_
  refine T_iload_n (pc := 13) C dX2_searchRounds_13 rfl 2 rfl ?_
  refine T_iconst (pc := 14) C dX2_searchRounds_14 ?_
  refine T_guard (fun g2 => ?_)
  refine Tc_iast (pc := 15) C (r0 + 1) 20 10 x2.toNat (kd_2 k0).1 ⟨by decide, by decide⟩ rfl g2 rfl (rngL rfl) dX2_searchRounds_15 ?_
  refine T_blS (fun s3 => ?_)
  refine T_iconst (pc := 16) C dX2_searchRounds_16 ?_
  refine T_istore_n (pc := 17) (L' := [(3, vi 0), (0, .ref (ad r0)), (1, .ref (ad r1)), (2, vi x2)]) C dX2_searchRounds_17 rfl (Nat.le_of_ble_eq_true rfl) rfl ?_
  refine T_sub (L' := [(0, .ref (ad r0)), (1, .ref (ad r1)), (3, vi 0)]) [1, 2, 0] rfl ?_
  refine T_loopE (lp_X2_searchRounds_18 zk hZ C N r0 r1 k0 k1 N s3 0 (rngL rfl)) (fun q34 hq34 => ?_)
  exact T_vret (pc := 75) q34 (fun h9 => h9) (by decide) dX2_searchRounds_75

abbrev rm_X2_tableEntry : Room := ⟨0, 0, 0, 0⟩
theorem cm_X2_tableEntry : cmV yX2_tableEntry cX2_tableEntry 3 (some .int) 2 := ⟨kc_9, kc_174, ⟨by decide +kernel, by decide +kernel, by decide +kernel⟩, kc_191, kc_192⟩
def f_X2_tableEntry (σ : Sm) (r0 : Nat) (x1 : Int) (x2 : Int) : Option Int :=
  if 0 ≤ ((x1 * 10) + x2) ∧ ((x1 * 10) + x2) < 100 then some (σ (r0 + 2) ((x1 * 10) + x2).toNat) else none
theorem ct_X2_tableEntry {l : Launch} {cy : Nat → ClassId} {ad : Nat → Nat} {E : Nat → Nat → Nat} {G : va_G} {Z : vZ} (zk : Zk Z E) (σ : Sm) (r0 : Nat) (x1 : Int) (x2 : Int) (k0 : kd r0 = 2) (h1 : rng x1) (h2 : rng x2) (hw : wfc σ) (o : Int) (h : f_X2_tableEntry σ r0 x1 x2 = some o) : CzI Z l yX2_tableEntry cX2_tableEntry 3 (some .int) rm_X2_tableEntry (wlc cy ad E) wfc G (tyc cy) [.ref (ad r0), vi x1, vi x2] σ σ o := by
  refine czI_of zk.1 (plainFor_of_name (by decide)) (Nat.le_of_ble_eq_true rfl) hw (σ, o) o h (fun X Y v => EndI X Y cX2_tableEntry rm_X2_tableEntry .int (σ, v)) (fun _ _ h => h) (fun X A Q hZ hX C => ?_)
  replace C : Cx X (Yc cy ad E G A 3 Q) cX2_tableEntry RX2 (some .int) rm_X2_tableEntry (tyc cy) := C
  replace hZ : Zx Z X (Yc cy ad E G A 3 Q) := hZ
  show T X (Yc cy ad E G A 3 Q) (fun v => EndI X (Yc cy ad E G A 3 Q) cX2_tableEntry rm_X2_tableEntry .int (σ, v)) 0 0 0 [(0, .ref (ad r0)), (1, vi x1), (2, vi x2)] [] σ (f_X2_tableEntry σ r0 x1 x2)
  unfold f_X2_tableEntry
  refine T_aload_n (pc := 0) C dX2_tableEntry_0 rfl 0 rfl ?_
  refine Tc_getr (pc := 1) C r0 2 1 2 k0 (by decide) (fun _ => rfl) rfl inX2 (by decide) (v := .ref (ad (r0 + 2))) rfl kc_190 dX2_tableEntry_1 ?_
  refine T_iload_n (pc := 4) C dX2_tableEntry_4 rfl 1 rfl ?_
  refine T_bipush (pc := 5) C dX2_tableEntry_5 (by decide) ?_
  refine T_imul (pc := 7) C dX2_tableEntry_7 ?_
  refine T_iload_n (pc := 8) C dX2_tableEntry_8 rfl 2 rfl ?_
  refine T_iadd (pc := 9) C dX2_tableEntry_9 ?_
  refine T_guard (fun g1 => ?_)
  refine Tc_iald (pc := 10) C (r0 + 2) 21 100 ((x1 * 10) + x2).toNat (kd_2 k0).2 ⟨by decide, by decide⟩ rfl g1 rfl dX2_tableEntry_10 (fun z2 => ?_)
  exact T_iret (pc := 11) (σ (r0 + 2) ((x1 * 10) + x2).toNat) (fun h9 => h9) z2 (nar_I _) (by decide) dX2_tableEntry_11

abbrev rm_X2_combine : Room := ⟨1, 0, 0, 22⟩
theorem cm_X2_combine : cmV yX2_combine cX2_combine 6 none 1 := ⟨kc_15, kc_174, ⟨by decide +kernel, by decide +kernel, by decide +kernel⟩, kc_194, kc_195⟩
def f_X2_combine_17 (r0 : Nat) (x1 : Int) (x2 : Int) (x3 : Int) : Nat → Sm → Int → Option (Sm)
  | 0, _, _ => none
  | n + 1, s0, x4 => (if x1 ≤ x4 then some s0 else (f_X2_tableEntry s0 r0 x3 x2).bind fun v67 => (f_X2_tableEntry s0 r0 x2 x4).bind fun v68 => bl (v67 + v68) fun v69 => (f_X2_tableEntry s0 r0 x3 x4).bind fun v70 => if rng v69 then (if v70 ≤ v69 then f_X2_combine_17 r0 x1 x2 x3 n s0 (x4 + 1) else if 0 ≤ ((x3 * 10) + x4) ∧ ((x3 * 10) + x4) < 100 then bl (upm s0 (r0 + 2) ((x3 * 10) + x4).toNat v69) fun s74 => f_X2_combine_17 r0 x1 x2 x3 n s74 (x4 + 1) else none) else none)
theorem lp_X2_combine_17 {X : vjX} {A : Nat → Prop} {Q : State → Prop} {cy : Nat → ClassId} {ad : Nat → Nat} {E : Nat → Nat → Nat} {G : va_G} {Z : vZ} (zk : Zk Z E) (hZ : Zx Z X (Yc cy ad E G A 6 Q)) (C : Cx X (Yc cy ad E G A 6 Q) cX2_combine RX2 none rm_X2_combine (tyc cy)) (r0 : Nat) (k0 : kd r0 = 2) (x1 : Int) (x2 : Int) (x3 : Int) (h1 : rng x1) (h2 : rng x2) (h3 : rng x3) : ∀ (n : Nat) (s0 : Sm) (x4 : Int) (h4 : rng x4), T X (Yc cy ad E G A 6 Q) (fun (q : Sm) => True → J X (Yc cy ad E G A 6 Q) 0 0 71 [(0, .ref (ad r0)), (1, vi x1), (2, vi x2), (3, vi x3)] [] q) 0 0 17 [(0, .ref (ad r0)), (1, vi x1), (2, vi x2), (3, vi x3), (4, vi x4)] [] s0 (f_X2_combine_17 r0 x1 x2 x3 n s0 x4) := by
  intro n
  induction n with
  | zero => intro s0 x4 h4; exact T_none
  | succ n ih =>
    intro s0 x4 h4
    rw [f_X2_combine_17]
    refine T_iload (pc := 17) C dX2_combine_17 4 rfl ?_
    refine T_iload_n (pc := 19) C dX2_combine_19 rfl 1 rfl ?_
    refine T_icmp_ge (pc := 20) C 71 dX2_combine_20 rfl h4 h1 (fun c66 => ?_) (fun c66 => ?_)
    · refine T_sub (L' := [(0, .ref (ad r0)), (1, vi x1), (2, vi x2), (3, vi x3)]) [0, 1, 2, 3] rfl ?_
      exact T_exit (fun h9 => h9 trivial)
    · refine T_aload_n (pc := 23) C dX2_combine_23 rfl 0 rfl ?_
      refine T_iload_n (pc := 24) C dX2_combine_24 rfl 3 rfl ?_
      refine T_iload_n (pc := 25) C dX2_combine_25 rfl 2 rfl ?_
      refine T_czVip (pc := 26) zk.1 hZ C [vi x3, vi x2] [] (fun o h9 hw => ct_X2_tableEntry zk s0 r0 x3 x2 k0 h3 h2 hw o h9) kc_193 cm_X2_tableEntry (rcc k0 (by decide) (fun _ => rfl) rfl) rfl rfl (Nat.le_of_ble_eq_true rfl) (by decide) (a' := 0) (b' := 0) ⟨rfl, rfl⟩ dX2_combine_26 (fun v67 hv67 => ?_)
      refine T_aload_n (pc := 29) C dX2_combine_29 rfl 0 rfl ?_
      refine T_iload_n (pc := 30) C dX2_combine_30 rfl 2 rfl ?_
      refine T_iload (pc := 31) C dX2_combine_31 4 rfl ?_
      refine T_czVip (pc := 33) zk.1 hZ C [vi x2, vi x4] [vi v67] (fun o h9 hw => ct_X2_tableEntry zk s0 r0 x2 x4 k0 h2 h4 hw o h9) kc_193 cm_X2_tableEntry (rcc k0 (by decide) (fun _ => rfl) rfl) rfl rfl (Nat.le_of_ble_eq_true rfl) (by decide) (a' := 0) (b' := 0) ⟨rfl, rfl⟩ dX2_combine_33 (fun v68 hv68 => ?_)
      refine T_iadd (pc := 36) C dX2_combine_36 ?_
      refine T_blN (fun v69 => ?_)
      refine T_istore (pc := 37) (L' := [(5, vi v69), (0, .ref (ad r0)), (1, vi x1), (2, vi x2), (3, vi x3), (4, vi x4)]) C dX2_combine_37 (Nat.le_of_ble_eq_true rfl) rfl ?_
      refine T_iload (pc := 39) C dX2_combine_39 0 rfl ?_
      refine T_aload_n (pc := 41) C dX2_combine_41 rfl 1 rfl ?_
      refine T_iload_n (pc := 42) C dX2_combine_42 rfl 4 rfl ?_
      refine T_iload (pc := 43) C dX2_combine_43 5 rfl ?_
      refine T_czVip (pc := 45) zk.1 hZ C [vi x3, vi x4] [vi v69] (fun o h9 hw => ct_X2_tableEntry zk s0 r0 x3 x4 k0 h3 h4 hw o h9) kc_193 cm_X2_tableEntry (rcc k0 (by decide) (fun _ => rfl) rfl) rfl rfl (Nat.le_of_ble_eq_true rfl) (by decide) (a' := 0) (b' := 0) ⟨rfl, rfl⟩ dX2_combine_45 (fun v70 hv70 => ?_)
      refine T_guard (fun g71 => ?_)
      refine T_icmp_ge (pc := 48) C 65 dX2_combine_48 rfl g71 hv70.1 (fun c72 => ?_) (fun c72 => ?_)
      · refine T_iinc (pc := 65) (L' := [(4, vi (x4 + 1)), (5, vi v69), (0, .ref (ad r0)), (1, vi x1), (2, vi x2), (3, vi x3)]) C dX2_combine_65 (Nat.le_of_ble_eq_true rfl) 5 rfl rfl ?_
        refine T_goto (pc := 68) C 17 dX2_combine_68 rfl ?_
        refine T_sub (L' := [(0, .ref (ad r0)), (1, vi x1), (2, vi x2), (3, vi x3), (4, vi (x4 + 1))]) [2, 3, 4, 5, 0] rfl ?_
        exact ih s0 (x4 + 1) (rng_inc c66 h4 h1)
      · refine T_aload_n (pc := 51) C dX2_combine_51 rfl 1 rfl ?_
        refine Tc_getr (pc := 52) C r0 2 1 2 k0 (by decide) (fun _ => rfl) rfl inX2 (by decide) (v := .ref (ad (r0 + 2))) rfl kc_190 dX2_combine_52 ?_
        refine T_iload_n (pc := 55) C dX2_combine_55 rfl 4 rfl ?_
        refine T_bipush (pc := 56) C dX2_combine_56 (by decide) ?_
        refine T_imul (pc := 58) C dX2_combine_58 ?_
        refine T_iload (pc := 59) C dX2_combine_59 5 rfl ?_
        refine T_iadd (pc := 61) C dX2_combine_61 ?_
        refine T_iload (pc := 62) C dX2_combine_62 0 rfl ?_
        refine T_guard (fun g73 => ?_)
        refine Tc_iast (pc := 64) C (r0 + 2) 21 100 ((x3 * 10) + x4).toNat (kd_2 k0).2 ⟨by decide, by decide⟩ rfl g73 rfl g71 dX2_combine_64 ?_
        refine T_blS (fun s74 => ?_)
        refine T_iinc (pc := 65) (L' := [(4, vi (x4 + 1)), (5, vi v69), (0, .ref (ad r0)), (1, vi x1), (2, vi x2), (3, vi x3)]) C dX2_combine_65 (Nat.le_of_ble_eq_true rfl) 5 rfl rfl ?_
        refine T_goto (pc := 68) C 17 dX2_combine_68 rfl ?_
        refine T_sub (L' := [(0, .ref (ad r0)), (1, vi x1), (2, vi x2), (3, vi x3), (4, vi (x4 + 1))]) [2, 3, 4, 5, 0] rfl ?_
        exact ih s74 (x4 + 1) (rng_inc c66 h4 h1)
def f_X2_combine_9 (N : Nat) (r0 : Nat) (x1 : Int) (x2 : Int) : Nat → Sm → Int → Option (Sm)
  | 0, _, _ => none
  | n + 1, s0, x3 => (if x1 ≤ x3 then some s0 else (f_X2_combine_17 r0 x1 x2 x3 N s0 0).bind fun q75 => f_X2_combine_9 N r0 x1 x2 n q75 (x3 + 1))
theorem lp_X2_combine_9 {X : vjX} {A : Nat → Prop} {Q : State → Prop} {cy : Nat → ClassId} {ad : Nat → Nat} {E : Nat → Nat → Nat} {G : va_G} {Z : vZ} (zk : Zk Z E) (hZ : Zx Z X (Yc cy ad E G A 6 Q)) (C : Cx X (Yc cy ad E G A 6 Q) cX2_combine RX2 none rm_X2_combine (tyc cy)) (N : Nat) (r0 : Nat) (k0 : kd r0 = 2) (x1 : Int) (x2 : Int) (h1 : rng x1) (h2 : rng x2) : ∀ (n : Nat) (s0 : Sm) (x3 : Int) (h3 : rng x3), T X (Yc cy ad E G A 6 Q) (fun (q : Sm) => True → J X (Yc cy ad E G A 6 Q) 0 0 77 [(0, .ref (ad r0)), (1, vi x1), (2, vi x2)] [] q) 0 0 9 [(0, .ref (ad r0)), (1, vi x1), (2, vi x2), (3, vi x3)] [] s0 (f_X2_combine_9 N r0 x1 x2 n s0 x3) := by
  intro n
  induction n with
  | zero => intro s0 x3 h3; exact T_none
  | succ n ih =>
    intro s0 x3 h3
    rw [f_X2_combine_9]
    refine T_iload_n (pc := 9) C dX2_combine_9 rfl 3 rfl ?_
    refine T_iload_n (pc := 10) C dX2_combine_10 rfl 1 rfl ?_
    refine T_icmp_ge (pc := 11) C 77 dX2_combine_11 rfl h3 h1 (fun c58 => ?_) (fun c58 => ?_)
    · refine T_sub (L' := [(0, .ref (ad r0)), (1, vi x1), (2, vi x2)]) [0, 1, 2] rfl ?_
      exact T_exit (fun h9 => h9 trivial)
    · refine T_iconst (pc := 14) C dX2_combine_14 ?_
      refine T_istore (pc := 15) (L' := [(4, vi 0), (0, .ref (ad r0)), (1, vi x1), (2, vi x2), (3, vi x3)]) C dX2_combine_15 (Nat.le_of_ble_eq_true rfl) rfl ?_
      refine T_sub (L' := [(0, .ref (ad r0)), (1, vi x1), (2, vi x2), (3, vi x3), (4, vi 0)]) [1, 2, 3, 4, 0] rfl ?_
      refine T_loopE (lp_X2_combine_17 zk hZ C r0 k0 x1 x2 x3 h1 h2 h3 N s0 0 (rngL rfl)) (fun q75 hq75 => ?_)
      refine T_iinc (pc := 71) (L' := [(3, vi (x3 + 1)), (0, .ref (ad r0)), (1, vi x1), (2, vi x2)]) C dX2_combine_71 (Nat.le_of_ble_eq_true rfl) 3 rfl rfl ?_
      refine T_goto (pc := 74) C 9 dX2_combine_74 rfl ?_
      refine T_sub (L' := [(0, .ref (ad r0)), (1, vi x1), (2, vi x2), (3, vi (x3 + 1))]) [1, 2, 3, 0] rfl ?_
      exact ih q75 (x3 + 1) (rng_inc c58 h3 h1)
def f_X2_combine_2 (N : Nat) (r0 : Nat) (x1 : Int) : Nat → Sm → Int → Option (Sm)
  | 0, _, _ => none
  | n + 1, s0, x2 => (if x1 ≤ x2 then some s0 else (f_X2_combine_9 N r0 x1 x2 N s0 0).bind fun q76 => f_X2_combine_2 N r0 x1 n q76 (x2 + 1))
theorem lp_X2_combine_2 {X : vjX} {A : Nat → Prop} {Q : State → Prop} {cy : Nat → ClassId} {ad : Nat → Nat} {E : Nat → Nat → Nat} {G : va_G} {Z : vZ} (zk : Zk Z E) (hZ : Zx Z X (Yc cy ad E G A 6 Q)) (C : Cx X (Yc cy ad E G A 6 Q) cX2_combine RX2 none rm_X2_combine (tyc cy)) (N : Nat) (r0 : Nat) (k0 : kd r0 = 2) (x1 : Int) (h1 : rng x1) : ∀ (n : Nat) (s0 : Sm) (x2 : Int) (h2 : rng x2), T X (Yc cy ad E G A 6 Q) (fun (q : Sm) => True → J X (Yc cy ad E G A 6 Q) 0 0 83 [] [] q) 0 0 2 [(0, .ref (ad r0)), (1, vi x1), (2, vi x2)] [] s0 (f_X2_combine_2 N r0 x1 n s0 x2) := by
  intro n
  induction n with
  | zero => intro s0 x2 h2; exact T_none
  | succ n ih =>
    intro s0 x2 h2
    rw [f_X2_combine_2]
    refine T_iload_n (pc := 2) C dX2_combine_2 rfl 2 rfl ?_
    refine T_iload_n (pc := 3) C dX2_combine_3 rfl 1 rfl ?_
    refine T_icmp_ge (pc := 4) C 83 dX2_combine_4 rfl h2 h1 (fun c39 => ?_) (fun c39 => ?_)
    · refine T_sub (L' := []) [] rfl ?_
      exact T_exit (fun h9 => h9 trivial)
    · refine T_iconst (pc := 7) C dX2_combine_7 ?_
      refine T_istore_n (pc := 8) (L' := [(3, vi 0), (0, .ref (ad r0)), (1, vi x1), (2, vi x2)]) C dX2_combine_8 rfl (Nat.le_of_ble_eq_true rfl) rfl ?_
      refine T_sub (L' := [(0, .ref (ad r0)), (1, vi x1), (2, vi x2), (3, vi 0)]) [1, 2, 3, 0] rfl ?_
      refine T_loopE (lp_X2_combine_9 zk hZ C N r0 k0 x1 x2 h1 h2 N s0 0 (rngL rfl)) (fun q76 hq76 => ?_)
      refine T_iinc (pc := 77) (L' := [(2, vi (x2 + 1)), (0, .ref (ad r0)), (1, vi x1)]) C dX2_combine_77 (Nat.le_of_ble_eq_true rfl) 2 rfl rfl ?_
      refine T_goto (pc := 80) C 2 dX2_combine_80 rfl ?_
      refine T_sub (L' := [(0, .ref (ad r0)), (1, vi x1), (2, vi (x2 + 1))]) [1, 2, 0] rfl ?_
      exact ih q76 (x2 + 1) (rng_inc c39 h2 h1)
def f_X2_combine (N : Nat) (σ : Sm) (r0 : Nat) (x1 : Int) : Option Sm :=
  (f_X2_combine_2 N r0 x1 N σ 0).bind fun q77 => some q77
theorem ct_X2_combine {l : Launch} {cy : Nat → ClassId} {ad : Nat → Nat} {E : Nat → Nat → Nat} {G : va_G} {Z : vZ} (zk : Zk Z E) (N : Nat) (σ : Sm) (r0 : Nat) (x1 : Int) (k0 : kd r0 = 2) (h1 : rng x1) (hw : wfc σ) (o : Sm) (h : f_X2_combine N σ r0 x1 = some o) : CzV Z l yX2_combine cX2_combine 6 rm_X2_combine (wlc cy ad E) wfc G (tyc cy) [.ref (ad r0), vi x1] σ o := by
  refine czV_of zk.1 (plainFor_of_name (by decide)) (Nat.le_of_ble_eq_true rfl) hw o o h (fun X Y w => EndV X Y cX2_combine rm_X2_combine w) (fun _ _ h => h) (fun X A Q hZ hX C => ?_)
  replace C : Cx X (Yc cy ad E G A 6 Q) cX2_combine RX2 none rm_X2_combine (tyc cy) := C
  replace hZ : Zx Z X (Yc cy ad E G A 6 Q) := hZ
  show T X (Yc cy ad E G A 6 Q) (fun w => EndV X (Yc cy ad E G A 6 Q) cX2_combine rm_X2_combine w) 0 0 0 [(0, .ref (ad r0)), (1, vi x1)] [] σ (f_X2_combine N σ r0 x1)
  unfold f_X2_combine
  refine T_iconst (pc := 0) C dX2_combine_0 ?_
  refine T_istore_n (pc := 1) (L' := [(2, vi 0), (0, .ref (ad r0)), (1, vi x1)]) C dX2_combine_1 rfl (Nat.le_of_ble_eq_true rfl) rfl ?_
  refine T_sub (L' := [(0, .ref (ad r0)), (1, vi x1), (2, vi 0)]) [1, 2, 0] rfl ?_
  refine T_loopE (lp_X2_combine_2 zk hZ C N r0 k0 x1 h1 N σ 0 (rngL rfl)) (fun q77 hq77 => ?_)
  exact T_vret (pc := 83) q77 (fun h9 => h9) (by decide) dX2_combine_83

abbrev rm_X2_directly : Room := ⟨2, 0, 0, 48⟩
theorem cm_X2_directly : cmS yX2_directly cX2_directly 3 (some .int) 3 := ⟨kc_14, kc_174, ⟨by decide +kernel, by decide +kernel, by decide +kernel⟩, kc_196⟩
def f_X2_directly (N : Nat) (σ : Sm) (r0 : Nat) (x1 : Int) (x2 : Int) : Option Int :=
  (if x1 = x2 then some 0 else (f_X8_canWalk σ r0 x1 x2).bind fun v2 => (if v2 = 0 then (f_X2_canRide N σ r0 x1 x2).bind fun v4 => (if v4 = 0 then some 1000000000 else some 1) else some 0))
theorem ct_X2_directly {l : Launch} {cy : Nat → ClassId} {ad : Nat → Nat} {E : Nat → Nat → Nat} {G : va_G} {Z : vZ} (zk : Zk Z E) (N : Nat) (σ : Sm) (r0 : Nat) (x1 : Int) (x2 : Int) (k0 : kd r0 = 8) (h1 : rng x1) (h2 : rng x2) (hw : wfc σ) (o : Int) (h : f_X2_directly N σ r0 x1 x2 = some o) : CzI Z l yX2_directly cX2_directly 3 (some .int) rm_X2_directly (wlc cy ad E) wfc G (tyc cy) [.ref (ad r0), vi x1, vi x2] σ σ o := by
  refine czI_of zk.1 (plainFor_of_name (by decide)) (Nat.le_of_ble_eq_true rfl) hw (σ, o) o h (fun X Y v => EndI X Y cX2_directly rm_X2_directly .int (σ, v)) (fun _ _ h => h) (fun X A Q hZ hX C => ?_)
  replace C : Cx X (Yc cy ad E G A 3 Q) cX2_directly RX2 (some .int) rm_X2_directly (tyc cy) := C
  replace hZ : Zx Z X (Yc cy ad E G A 3 Q) := hZ
  show T X (Yc cy ad E G A 3 Q) (fun v => EndI X (Yc cy ad E G A 3 Q) cX2_directly rm_X2_directly .int (σ, v)) 0 0 0 [(0, .ref (ad r0)), (1, vi x1), (2, vi x2)] [] σ (f_X2_directly N σ r0 x1 x2)
  unfold f_X2_directly
  refine T_iload_n (pc := 0) C dX2_directly_0 rfl 1 rfl ?_
  refine T_iload_n (pc := 1) C dX2_directly_1 rfl 2 rfl ?_
  refine T_icmp_eq (pc := 2) C 14 dX2_directly_2 rfl h1 h2 (fun c1 => ?_) (fun c1 => ?_)
  · refine T_iconst (pc := 14) C dX2_directly_14 ?_
    exact T_iret (pc := 15) 0 (fun h9 => h9) (rngL rfl) (nar_I _) (by decide) dX2_directly_15
  · refine T_aload_n (pc := 5) C dX2_directly_5 rfl 0 rfl ?_
    refine T_iload_n (pc := 6) C dX2_directly_6 rfl 1 rfl ?_
    refine T_iload_n (pc := 7) C dX2_directly_7 rfl 2 rfl ?_
    refine T_czVip (pc := 8) zk.1 hZ C [vi x1, vi x2] [] (fun o h9 hw => ct_X8_canWalk zk σ r0 x1 x2 k0 h1 h2 hw o h9) kc_181 cm_X8_canWalk (rcc k0 (by decide) (fun _ => rfl) rfl) rfl rfl (Nat.le_of_ble_eq_true rfl) (by decide) (a' := 0) (b' := 0) ⟨rfl, rfl⟩ dX2_directly_8 (fun v2 hv2 => ?_)
    refine T_if_eq (pc := 11) C 16 dX2_directly_11 rfl hv2.1 (fun c3 => ?_) (fun c3 => ?_)
    · refine T_aload_n (pc := 16) C dX2_directly_16 rfl 0 rfl ?_
      refine T_iload_n (pc := 17) C dX2_directly_17 rfl 1 rfl ?_
      refine T_iload_n (pc := 18) C dX2_directly_18 rfl 2 rfl ?_
      refine T_czSip (pc := 19) zk.1 hZ C [.ref (ad r0), vi x1, vi x2] [] (fun o h9 hw => ct_X2_canRide zk N σ r0 x1 x2 k0 h1 h2 hw o h9) kc_178 cm_X2_canRide rfl rfl (Nat.le_of_ble_eq_true rfl) (by decide) (a' := 0) (b' := 0) ⟨rfl, rfl⟩ dX2_directly_19 (fun v4 hv4 => ?_)
      refine T_if_eq (pc := 22) C 29 dX2_directly_22 rfl hv4.1 (fun c5 => ?_) (fun c5 => ?_)
      · refine T_ldc (pc := 29) C 1000000000 dX2_directly_29 kc_184 (by decide) ?_
        exact T_iret (pc := 31) 1000000000 (fun h9 => h9) (rngL rfl) (nar_I _) (by decide) dX2_directly_31
      · refine T_iconst (pc := 25) C dX2_directly_25 ?_
        refine T_goto (pc := 26) C 31 dX2_directly_26 rfl ?_
        exact T_iret (pc := 31) 1 (fun h9 => h9) (rngL rfl) (nar_I _) (by decide) dX2_directly_31
    · refine T_iconst (pc := 14) C dX2_directly_14 ?_
      exact T_iret (pc := 15) 0 (fun h9 => h9) (rngL rfl) (nar_I _) (by decide) dX2_directly_15

abbrev rm_X2_fillTable : Room := ⟨3, 0, 0, 70⟩
theorem cm_X2_fillTable : cmV yX2_fillTable cX2_fillTable 4 none 1 := ⟨kc_10, kc_174, ⟨by decide +kernel, by decide +kernel, by decide +kernel⟩, kc_199, kc_200⟩
def f_X2_fillTable_12 (N : Nat) (r0 : Nat) (r1 : Nat) (x2 : Int) : Nat → Sm → Int → Option (Sm)
  | 0, _, _ => none
  | n + 1, s0, x3 => (if (s0 r1 2) ≤ x3 then some s0 else (f_X2_directly N s0 r1 x2 x3).bind fun v23 => if 0 ≤ ((x2 * 10) + x3) ∧ ((x2 * 10) + x3) < 100 then bl (upm s0 (r0 + 2) ((x2 * 10) + x3).toNat v23) fun s25 => f_X2_fillTable_12 N r0 r1 x2 n s25 (x3 + 1) else none)
theorem lp_X2_fillTable_12 {X : vjX} {A : Nat → Prop} {Q : State → Prop} {cy : Nat → ClassId} {ad : Nat → Nat} {E : Nat → Nat → Nat} {G : va_G} {Z : vZ} (zk : Zk Z E) (hZ : Zx Z X (Yc cy ad E G A 4 Q)) (C : Cx X (Yc cy ad E G A 4 Q) cX2_fillTable RX2 none rm_X2_fillTable (tyc cy)) (N : Nat) (r0 : Nat) (r1 : Nat) (k0 : kd r0 = 2) (k1 : kd r1 = 8) (x2 : Int) (h2 : rng x2) : ∀ (n : Nat) (s0 : Sm) (x3 : Int) (h3 : rng x3), T X (Yc cy ad E G A 4 Q) (fun (q : Sm) => True → J X (Yc cy ad E G A 4 Q) 0 0 43 [(0, .ref (ad r0)), (1, .ref (ad r1)), (2, vi x2)] [] q) 0 0 12 [(0, .ref (ad r0)), (1, .ref (ad r1)), (2, vi x2), (3, vi x3)] [] s0 (f_X2_fillTable_12 N r0 r1 x2 n s0 x3) := by
  intro n
  induction n with
  | zero => intro s0 x3 h3; exact T_none
  | succ n ih =>
    intro s0 x3 h3
    rw [f_X2_fillTable_12]
    refine T_iload_n (pc := 12) C dX2_fillTable_12 rfl 3 rfl ?_
    refine T_aload_n (pc := 13) C dX2_fillTable_13 rfl 1 rfl ?_
    refine Tc_geti (pc := 14) C r1 8 2 10 k1 (by decide) (fun _ => rfl) rfl inX8 (by decide) rfl kc_176 dX2_fillTable_14 (fun z21 => ?_)
    refine T_icmp_ge (pc := 17) C 43 dX2_fillTable_17 rfl h3 z21.1 (fun c22 => ?_) (fun c22 => ?_)
    · refine T_sub (L' := [(0, .ref (ad r0)), (1, .ref (ad r1)), (2, vi x2)]) [0, 1, 2] rfl ?_
      exact T_exit (fun h9 => h9 trivial)
    · refine T_aload_n (pc := 20) C dX2_fillTable_20 rfl 0 rfl ?_
      refine Tc_getr (pc := 21) C r0 2 1 2 k0 (by decide) (fun _ => rfl) rfl inX2 (by decide) (v := .ref (ad (r0 + 2))) rfl kc_190 dX2_fillTable_21 ?_
      refine T_iload_n (pc := 24) C dX2_fillTable_24 rfl 2 rfl ?_
      refine T_bipush (pc := 25) C dX2_fillTable_25 (by decide) ?_
      refine T_imul (pc := 27) C dX2_fillTable_27 ?_
      refine T_iload_n (pc := 28) C dX2_fillTable_28 rfl 3 rfl ?_
      refine T_iadd (pc := 29) C dX2_fillTable_29 ?_
      refine T_aload_n (pc := 30) C dX2_fillTable_30 rfl 1 rfl ?_
      refine T_iload_n (pc := 31) C dX2_fillTable_31 rfl 2 rfl ?_
      refine T_iload_n (pc := 32) C dX2_fillTable_32 rfl 3 rfl ?_
      refine T_czSip (pc := 33) zk.1 hZ C [.ref (ad r1), vi x2, vi x3] [vi ((x2 * 10) + x3), .ref (ad (r0 + 2))] (fun o h9 hw => ct_X2_directly zk N s0 r1 x2 x3 k1 h2 h3 hw o h9) kc_197 cm_X2_directly rfl rfl (Nat.le_of_ble_eq_true rfl) (by decide) (a' := 0) (b' := 0) ⟨rfl, rfl⟩ dX2_fillTable_33 (fun v23 hv23 => ?_)
      refine T_guard (fun g24 => ?_)
      refine Tc_iast (pc := 36) C (r0 + 2) 21 100 ((x2 * 10) + x3).toNat (kd_2 k0).2 ⟨by decide, by decide⟩ rfl g24 rfl hv23.1 dX2_fillTable_36 ?_
      refine T_blS (fun s25 => ?_)
      refine T_iinc (pc := 37) (L' := [(3, vi (x3 + 1)), (0, .ref (ad r0)), (1, .ref (ad r1)), (2, vi x2)]) C dX2_fillTable_37 (Nat.le_of_ble_eq_true rfl) 3 rfl rfl ?_
      refine T_goto (pc := 40) C 12 dX2_fillTable_40 rfl ?_
      refine T_sub (L' := [(0, .ref (ad r0)), (1, .ref (ad r1)), (2, vi x2), (3, vi (x3 + 1))]) [1, 2, 3, 0] rfl ?_
      exact ih s25 (x3 + 1) (rng_inc c22 h3 z21.1)
def f_X2_fillTable_2 (N : Nat) (r0 : Nat) (r1 : Nat) : Nat → Sm → Int → Option (Sm)
  | 0, _, _ => none
  | n + 1, s0, x2 => (if (s0 r1 2) ≤ x2 then some s0 else (f_X2_fillTable_12 N r0 r1 x2 N s0 0).bind fun q26 => f_X2_fillTable_2 N r0 r1 n q26 (x2 + 1))
theorem lp_X2_fillTable_2 {X : vjX} {A : Nat → Prop} {Q : State → Prop} {cy : Nat → ClassId} {ad : Nat → Nat} {E : Nat → Nat → Nat} {G : va_G} {Z : vZ} (zk : Zk Z E) (hZ : Zx Z X (Yc cy ad E G A 4 Q)) (C : Cx X (Yc cy ad E G A 4 Q) cX2_fillTable RX2 none rm_X2_fillTable (tyc cy)) (N : Nat) (r0 : Nat) (r1 : Nat) (k0 : kd r0 = 2) (k1 : kd r1 = 8) : ∀ (n : Nat) (s0 : Sm) (x2 : Int) (h2 : rng x2), T X (Yc cy ad E G A 4 Q) (fun (q : Sm) => True → J X (Yc cy ad E G A 4 Q) 0 0 49 [(0, .ref (ad r0)), (1, .ref (ad r1))] [] q) 0 0 2 [(0, .ref (ad r0)), (1, .ref (ad r1)), (2, vi x2)] [] s0 (f_X2_fillTable_2 N r0 r1 n s0 x2) := by
  intro n
  induction n with
  | zero => intro s0 x2 h2; exact T_none
  | succ n ih =>
    intro s0 x2 h2
    rw [f_X2_fillTable_2]
    refine T_iload_n (pc := 2) C dX2_fillTable_2 rfl 2 rfl ?_
    refine T_aload_n (pc := 3) C dX2_fillTable_3 rfl 1 rfl ?_
    refine Tc_geti (pc := 4) C r1 8 2 10 k1 (by decide) (fun _ => rfl) rfl inX8 (by decide) rfl kc_176 dX2_fillTable_4 (fun z14 => ?_)
    refine T_icmp_ge (pc := 7) C 49 dX2_fillTable_7 rfl h2 z14.1 (fun c15 => ?_) (fun c15 => ?_)
    · refine T_sub (L' := [(0, .ref (ad r0)), (1, .ref (ad r1))]) [0, 1] rfl ?_
      exact T_exit (fun h9 => h9 trivial)
    · refine T_iconst (pc := 10) C dX2_fillTable_10 ?_
      refine T_istore_n (pc := 11) (L' := [(3, vi 0), (0, .ref (ad r0)), (1, .ref (ad r1)), (2, vi x2)]) C dX2_fillTable_11 rfl (Nat.le_of_ble_eq_true rfl) rfl ?_
      refine T_sub (L' := [(0, .ref (ad r0)), (1, .ref (ad r1)), (2, vi x2), (3, vi 0)]) [1, 2, 3, 0] rfl ?_
      refine T_loopE (lp_X2_fillTable_12 zk hZ C N r0 r1 k0 k1 x2 h2 N s0 0 (rngL rfl)) (fun q26 hq26 => ?_)
      refine T_iinc (pc := 43) (L' := [(2, vi (x2 + 1)), (0, .ref (ad r0)), (1, .ref (ad r1))]) C dX2_fillTable_43 (Nat.le_of_ble_eq_true rfl) 2 rfl rfl ?_
      refine T_goto (pc := 46) C 2 dX2_fillTable_46 rfl ?_
      refine T_sub (L' := [(0, .ref (ad r0)), (1, .ref (ad r1)), (2, vi (x2 + 1))]) [1, 2, 0] rfl ?_
      exact ih q26 (x2 + 1) (rng_inc c15 h2 z14.1)
def f_X2_fillTable_51 (N : Nat) (r0 : Nat) (r1 : Nat) : Nat → Sm → Int → Option (Sm)
  | 0, _, _ => none
  | n + 1, s0, x2 => (if 10 ≤ x2 then some s0 else (f_X2_combine N s0 r0 (s0 r1 2)).bind fun s34 => bl (x2 * 2) fun v35 => if rng v35 then f_X2_fillTable_51 N r0 r1 n s34 v35 else none)
theorem lp_X2_fillTable_51 {X : vjX} {A : Nat → Prop} {Q : State → Prop} {cy : Nat → ClassId} {ad : Nat → Nat} {E : Nat → Nat → Nat} {G : va_G} {Z : vZ} (zk : Zk Z E) (hZ : Zx Z X (Yc cy ad E G A 4 Q)) (C : Cx X (Yc cy ad E G A 4 Q) cX2_fillTable RX2 none rm_X2_fillTable (tyc cy)) (N : Nat) (r0 : Nat) (r1 : Nat) (k0 : kd r0 = 2) (k1 : kd r1 = 8) : ∀ (n : Nat) (s0 : Sm) (x2 : Int) (h2 : rng x2), T X (Yc cy ad E G A 4 Q) (fun (q : Sm) => True → J X (Yc cy ad E G A 4 Q) 0 0 72 [] [] q) 0 0 51 [(0, .ref (ad r0)), (1, .ref (ad r1)), (2, vi x2)] [] s0 (f_X2_fillTable_51 N r0 r1 n s0 x2) := by
  intro n
  induction n with
  | zero => intro s0 x2 h2; exact T_none
  | succ n ih =>
    intro s0 x2 h2
    rw [f_X2_fillTable_51]
    refine T_iload_n (pc := 51) C dX2_fillTable_51 rfl 2 rfl ?_
    refine T_bipush (pc := 52) C dX2_fillTable_52 (by decide) ?_
    refine T_icmp_ge (pc := 54) C 72 dX2_fillTable_54 rfl h2 (rngL rfl) (fun c32 => ?_) (fun c32 => ?_)
    · refine T_sub (L' := []) [] rfl ?_
      exact T_exit (fun h9 => h9 trivial)
    · refine T_aload_n (pc := 57) C dX2_fillTable_57 rfl 0 rfl ?_
      refine T_aload_n (pc := 58) C dX2_fillTable_58 rfl 1 rfl ?_
      refine Tc_geti (pc := 59) C r1 8 2 10 k1 (by decide) (fun _ => rfl) rfl inX8 (by decide) rfl kc_176 dX2_fillTable_59 (fun z33 => ?_)
      refine T_czVv (pc := 62) zk.1 hZ C [vi (s0 r1 2)] [] (fun o h9 hw => ct_X2_combine zk N s0 r0 (s0 r1 2) k0 z33.1 hw o h9) kc_198 cm_X2_combine (rcc k0 (by decide) (fun _ => rfl) rfl) rfl rfl (Nat.le_of_ble_eq_true rfl) (by decide) (a' := 0) (b' := 0) ⟨rfl, rfl⟩ dX2_fillTable_62 (fun s34 => ?_)
      refine T_iload_n (pc := 65) C dX2_fillTable_65 rfl 2 rfl ?_
      refine T_iconst (pc := 66) C dX2_fillTable_66 ?_
      refine T_imul (pc := 67) C dX2_fillTable_67 ?_
      refine T_blN (fun v35 => ?_)
      refine T_istore_n (pc := 68) (L' := [(2, vi v35), (0, .ref (ad r0)), (1, .ref (ad r1))]) C dX2_fillTable_68 rfl (Nat.le_of_ble_eq_true rfl) rfl ?_
      refine T_goto (pc := 69) C 51 dX2_fillTable_69 rfl ?_
      refine T_sub (L' := [(0, .ref (ad r0)), (1, .ref (ad r1)), (2, vi v35)]) [1, 2, 0] rfl ?_
      refine T_guard (fun g36 => ?_)
      exact ih s34 v35 g36
def f_X2_fillTable (N : Nat) (σ : Sm) (r0 : Nat) (r1 : Nat) : Option Sm :=
  (f_X2_fillTable_2 N r0 r1 N σ 0).bind fun q27 => (f_X2_fillTable_51 N r0 r1 N q27 1).bind fun q37 => some q37
theorem ct_X2_fillTable {l : Launch} {cy : Nat → ClassId} {ad : Nat → Nat} {E : Nat → Nat → Nat} {G : va_G} {Z : vZ} (zk : Zk Z E) (N : Nat) (σ : Sm) (r0 : Nat) (r1 : Nat) (k0 : kd r0 = 2) (k1 : kd r1 = 8) (hw : wfc σ) (o : Sm) (h : f_X2_fillTable N σ r0 r1 = some o) : CzV Z l yX2_fillTable cX2_fillTable 4 rm_X2_fillTable (wlc cy ad E) wfc G (tyc cy) [.ref (ad r0), .ref (ad r1)] σ o := by
  refine czV_of zk.1 (plainFor_of_name (by decide)) (Nat.le_of_ble_eq_true rfl) hw o o h (fun X Y w => EndV X Y cX2_fillTable rm_X2_fillTable w) (fun _ _ h => h) (fun X A Q hZ hX C => ?_)
  replace C : Cx X (Yc cy ad E G A 4 Q) cX2_fillTable RX2 none rm_X2_fillTable (tyc cy) := C
  replace hZ : Zx Z X (Yc cy ad E G A 4 Q) := hZ
  show T X (Yc cy ad E G A 4 Q) (fun w => EndV X (Yc cy ad E G A 4 Q) cX2_fillTable rm_X2_fillTable w) 0 0 0 [(0, .ref (ad r0)), (1, .ref (ad r1))] [] σ (f_X2_fillTable N σ r0 r1)
  unfold f_X2_fillTable
  refine T_iconst (pc := 0) C dX2_fillTable_0 ?_
  refine T_istore_n (pc := 1) (L' := [(2, vi 0), (0, .ref (ad r0)), (1, .ref (ad r1))]) C dX2_fillTable_1 rfl (Nat.le_of_ble_eq_true rfl) rfl ?_
  refine T_sub (L' := [(0, .ref (ad r0)), (1, .ref (ad r1)), (2, vi 0)]) [1, 2, 0] rfl ?_
  refine T_loopE (lp_X2_fillTable_2 zk hZ C N r0 r1 k0 k1 N σ 0 (rngL rfl)) (fun q27 hq27 => ?_)
  refine T_iconst (pc := 49) C dX2_fillTable_49 ?_
  refine T_istore_n (pc := 50) (L' := [(2, vi 1), (0, .ref (ad r0)), (1, .ref (ad r1))]) C dX2_fillTable_50 rfl (Nat.le_of_ble_eq_true rfl) rfl ?_
  refine T_sub (L' := [(0, .ref (ad r0)), (1, .ref (ad r1)), (2, vi 1)]) [1, 2, 0] rfl ?_
  refine T_loopE (lp_X2_fillTable_51 zk hZ C N r0 r1 k0 k1 N q27 1 (rngL rfl)) (fun q37 hq37 => ?_)
  exact T_vret (pc := 72) q37 (fun h9 => h9) (by decide) dX2_fillTable_72

abbrev rm_X5_addTravellers : Room := ⟨1, 0, 0, 21⟩
theorem cm_X5_addTravellers : cmV yX5_addTravellers cX5_addTravellers 7 (some .int) 2 := ⟨kc_21, kc_205, ⟨by decide +kernel, by decide +kernel, by decide +kernel⟩, kc_206, kc_207⟩
def f_X5_addTravellers_9 (σ : Sm) (r0 : Nat) (x1 : Int) (x2 : Int) : Nat → Int → Int → Int → Option (Int)
  | 0, _, _, _ => none
  | n + 1, x3, x4, x5 => (if 10 ≤ x5 then some x3 else (if x4 = x1 then some x3 else if 0 ≤ x4 ∧ x4 < 10 then if 0 ≤ (((σ (r0 + 2) x4.toNat) * 10) + x4) ∧ (((σ (r0 + 2) x4.toNat) * 10) + x4) < 100 then (f_J9_min_7cf53 x3 (σ (r0 + 1) (((σ (r0 + 2) x4.toNat) * 10) + x4).toNat)).bind fun v17 => bl (σ (r0 + 2) x4.toNat) fun v19 => f_X5_addTravellers_9 σ r0 x1 x2 n v17 v19 (x5 + 1) else none else none))
theorem lp_X5_addTravellers_9 {X : vjX} {A : Nat → Prop} {Q : State → Prop} {cy : Nat → ClassId} {ad : Nat → Nat} {E : Nat → Nat → Nat} {G : va_G} {Z : vZ} (zk : Zk Z E) (hZ : Zx Z X (Yc cy ad E G A 7 Q)) (C : Cx X (Yc cy ad E G A 7 Q) cX5_addTravellers RX5 (some .int) rm_X5_addTravellers (tyc cy)) (σ : Sm) (r0 : Nat) (k0 : kd r0 = 5) (x1 : Int) (x2 : Int) (h1 : rng x1) (h2 : rng x2) : ∀ (n : Nat) (x3 : Int) (x4 : Int) (x5 : Int) (h3 : rng x3) (h4 : rng x4) (h5 : rng x5), T X (Yc cy ad E G A 7 Q) (fun (q : Int) => rng q → J X (Yc cy ad E G A 7 Q) 0 0 60 [(0, .ref (ad r0)), (1, vi x1), (2, vi x2), (3, vi q)] [] σ) 0 0 9 [(0, .ref (ad r0)), (1, vi x1), (2, vi x2), (3, vi x3), (4, vi x4), (5, vi x5)] [] σ (f_X5_addTravellers_9 σ r0 x1 x2 n x3 x4 x5) := by
  intro n
  induction n with
  | zero => intro x3 x4 x5 h3 h4 h5; exact T_none
  | succ n ih =>
    intro x3 x4 x5 h3 h4 h5
    rw [f_X5_addTravellers_9]
    refine T_iload (pc := 9) C dX5_addTravellers_9 5 rfl ?_
    refine T_bipush (pc := 11) C dX5_addTravellers_11 (by decide) ?_
    refine T_icmp_ge (pc := 13) C 60 dX5_addTravellers_13 rfl h5 (rngL rfl) (fun c11 => ?_) (fun c11 => ?_)
    · refine T_sub (L' := [(0, .ref (ad r0)), (1, vi x1), (2, vi x2), (3, vi x3)]) [0, 1, 2, 3] rfl ?_
      exact T_exit (fun h9 => h9 h3)
    · refine T_iload (pc := 16) C dX5_addTravellers_16 4 rfl ?_
      refine T_iload_n (pc := 18) C dX5_addTravellers_18 rfl 1 rfl ?_
      refine T_icmp_eq (pc := 19) C 60 dX5_addTravellers_19 rfl h4 h1 (fun c12 => ?_) (fun c12 => ?_)
      · refine T_sub (L' := [(0, .ref (ad r0)), (1, vi x1), (2, vi x2), (3, vi x3)]) [0, 1, 2, 3] rfl ?_
        exact T_exit (fun h9 => h9 h3)
      · refine T_iload_n (pc := 22) C dX5_addTravellers_22 rfl 3 rfl ?_
        refine T_aload_n (pc := 23) C dX5_addTravellers_23 rfl 0 rfl ?_
        refine Tc_getr (pc := 24) C r0 5 0 7 k0 (by decide) (fun _ => rfl) rfl inX5 (by decide) (v := .ref (ad (r0 + 1))) rfl kc_202 dX5_addTravellers_24 ?_
        refine T_aload_n (pc := 27) C dX5_addTravellers_27 rfl 0 rfl ?_
        refine Tc_getr (pc := 28) C r0 5 1 7 k0 (by decide) (fun _ => rfl) rfl inX5 (by decide) (v := .ref (ad (r0 + 2))) rfl kc_203 dX5_addTravellers_28 ?_
        refine T_iload (pc := 31) C dX5_addTravellers_31 4 rfl ?_
        refine T_guard (fun g13 => ?_)
        refine Tc_iald (pc := 33) C (r0 + 2) 20 10 x4.toNat (kd_5 k0).2.1 ⟨by decide, by decide⟩ rfl g13 rfl dX5_addTravellers_33 (fun z14 => ?_)
        refine T_bipush (pc := 34) C dX5_addTravellers_34 (by decide) ?_
        refine T_imul (pc := 36) C dX5_addTravellers_36 ?_
        refine T_iload (pc := 37) C dX5_addTravellers_37 4 rfl ?_
        refine T_iadd (pc := 39) C dX5_addTravellers_39 ?_
        refine T_guard (fun g15 => ?_)
        refine Tc_iald (pc := 40) C (r0 + 1) 21 100 (((σ (r0 + 2) x4.toNat) * 10) + x4).toNat (kd_5 k0).1 ⟨by decide, by decide⟩ rfl g15 rfl dX5_addTravellers_40 (fun z16 => ?_)
        refine T_czSip (pc := 41) zk.1 hZ C [vi x3, vi (σ (r0 + 1) (((σ (r0 + 2) x4.toNat) * 10) + x4).toNat)] [] (fun o h9 hw => ct_J9_min_7cf53 zk σ x3 (σ (r0 + 1) (((σ (r0 + 2) x4.toNat) * 10) + x4).toNat) h3 z16 hw o h9) kc_204 cm_J9_min_7cf53 rfl rfl (Nat.le_of_ble_eq_true rfl) (by decide) (a' := 0) (b' := 0) ⟨rfl, rfl⟩ dX5_addTravellers_41 (fun v17 hv17 => ?_)
        refine T_istore_n (pc := 44) (L' := [(3, vi v17), (0, .ref (ad r0)), (1, vi x1), (2, vi x2), (4, vi x4), (5, vi x5)]) C dX5_addTravellers_44 rfl (Nat.le_of_ble_eq_true rfl) rfl ?_
        refine T_aload_n (pc := 45) C dX5_addTravellers_45 rfl 1 rfl ?_
        refine Tc_getr (pc := 46) C r0 5 1 7 k0 (by decide) (fun _ => rfl) rfl inX5 (by decide) (v := .ref (ad (r0 + 2))) rfl kc_203 dX5_addTravellers_46 ?_
        refine T_iload (pc := 49) C dX5_addTravellers_49 4 rfl ?_
        refine Tc_iald (pc := 51) C (r0 + 2) 20 10 x4.toNat (kd_5 k0).2.1 ⟨by decide, by decide⟩ rfl g13 rfl dX5_addTravellers_51 (fun z18 => ?_)
        refine T_blV z18 (fun v19 hv19 => ?_)
        refine T_istore (pc := 52) (L' := [(4, vi v19), (3, vi v17), (0, .ref (ad r0)), (1, vi x1), (2, vi x2), (5, vi x5)]) C dX5_addTravellers_52 (Nat.le_of_ble_eq_true rfl) rfl ?_
        refine T_iinc (pc := 54) (L' := [(5, vi (x5 + 1)), (4, vi v19), (3, vi v17), (0, .ref (ad r0)), (1, vi x1), (2, vi x2)]) C dX5_addTravellers_54 (Nat.le_of_ble_eq_true rfl) 5 rfl rfl ?_
        refine T_goto (pc := 57) C 9 dX5_addTravellers_57 rfl ?_
        refine T_sub (L' := [(0, .ref (ad r0)), (1, vi x1), (2, vi x2), (3, vi v17), (4, vi v19), (5, vi (x5 + 1))]) [3, 4, 5, 2, 1, 0] rfl ?_
        exact ih v17 v19 (x5 + 1) hv17.1 hv19 (rng_inc c11 h5 (rngL rfl))
def f_X5_addTravellers_66 (r0 : Nat) (x1 : Int) (x3 : Int) : Nat → Sm → Int → Int → Option (Sm)
  | 0, _, _, _ => none
  | n + 1, s0, x4, x5 => (if 10 ≤ x5 then some s0 else (if x4 = x1 then some s0 else if 0 ≤ x4 ∧ x4 < 10 then bl (s0 (r0 + 2) x4.toNat) fun v38 => if 0 ≤ ((v38 * 10) + x4) ∧ ((v38 * 10) + x4) < 100 then if rng ((s0 (r0 + 1) ((v38 * 10) + x4).toNat) - x3) then bl (upm s0 (r0 + 1) ((v38 * 10) + x4).toNat ((s0 (r0 + 1) ((v38 * 10) + x4).toNat) - x3)) fun s42 => if 0 ≤ ((x4 * 10) + v38) ∧ ((x4 * 10) + v38) < 100 then if rng ((s42 (r0 + 1) ((x4 * 10) + v38).toNat) + x3) then bl (upm s42 (r0 + 1) ((x4 * 10) + v38).toNat ((s42 (r0 + 1) ((x4 * 10) + v38).toNat) + x3)) fun s46 => f_X5_addTravellers_66 r0 x1 x3 n s46 v38 (x5 + 1) else none else none else none else none else none))
theorem lp_X5_addTravellers_66 {X : vjX} {A : Nat → Prop} {Q : State → Prop} {cy : Nat → ClassId} {ad : Nat → Nat} {E : Nat → Nat → Nat} {G : va_G} {Z : vZ} (zk : Zk Z E) (hZ : Zx Z X (Yc cy ad E G A 7 Q)) (C : Cx X (Yc cy ad E G A 7 Q) cX5_addTravellers RX5 (some .int) rm_X5_addTravellers (tyc cy)) (r0 : Nat) (k0 : kd r0 = 5) (x1 : Int) (x3 : Int) (h1 : rng x1) (h3 : rng x3) : ∀ (n : Nat) (s0 : Sm) (x4 : Int) (x5 : Int) (h4 : rng x4) (h5 : rng x5), T X (Yc cy ad E G A 7 Q) (fun (q : Sm) => True → J X (Yc cy ad E G A 7 Q) 0 0 132 [(3, vi x3)] [] q) 0 0 66 [(0, .ref (ad r0)), (1, vi x1), (3, vi x3), (4, vi x4), (5, vi x5)] [] s0 (f_X5_addTravellers_66 r0 x1 x3 n s0 x4 x5) := by
  intro n
  induction n with
  | zero => intro s0 x4 x5 h4 h5; exact T_none
  | succ n ih =>
    intro s0 x4 x5 h4 h5
    rw [f_X5_addTravellers_66]
    refine T_iload (pc := 66) C dX5_addTravellers_66 4 rfl ?_
    refine T_bipush (pc := 68) C dX5_addTravellers_68 (by decide) ?_
    refine T_icmp_ge (pc := 70) C 132 dX5_addTravellers_70 rfl h5 (rngL rfl) (fun c34 => ?_) (fun c34 => ?_)
    · refine T_sub (L' := [(3, vi x3)]) [2] rfl ?_
      exact T_exit (fun h9 => h9 trivial)
    · refine T_iload (pc := 73) C dX5_addTravellers_73 3 rfl ?_
      refine T_iload_n (pc := 75) C dX5_addTravellers_75 rfl 1 rfl ?_
      refine T_icmp_eq (pc := 76) C 132 dX5_addTravellers_76 rfl h4 h1 (fun c35 => ?_) (fun c35 => ?_)
      · refine T_sub (L' := [(3, vi x3)]) [2] rfl ?_
        exact T_exit (fun h9 => h9 trivial)
      · refine T_aload_n (pc := 79) C dX5_addTravellers_79 rfl 0 rfl ?_
        refine Tc_getr (pc := 80) C r0 5 1 7 k0 (by decide) (fun _ => rfl) rfl inX5 (by decide) (v := .ref (ad (r0 + 2))) rfl kc_203 dX5_addTravellers_80 ?_
        refine T_iload (pc := 83) C dX5_addTravellers_83 3 rfl ?_
        refine T_guard (fun g36 => ?_)
        refine Tc_iald (pc := 85) C (r0 + 2) 20 10 x4.toNat (kd_5 k0).2.1 ⟨by decide, by decide⟩ rfl g36 rfl dX5_addTravellers_85 (fun z37 => ?_)
        refine T_blV z37 (fun v38 hv38 => ?_)
        refine T_istore (pc := 86) (L' := [(6, vi v38), (0, .ref (ad r0)), (1, vi x1), (3, vi x3), (4, vi x4), (5, vi x5)]) C dX5_addTravellers_86 (Nat.le_of_ble_eq_true rfl) rfl ?_
        refine T_aload_n (pc := 88) C dX5_addTravellers_88 rfl 1 rfl ?_
        refine Tc_getr (pc := 89) C r0 5 0 7 k0 (by decide) (fun _ => rfl) rfl inX5 (by decide) (v := .ref (ad (r0 + 1))) rfl kc_202 dX5_addTravellers_89 ?_
        refine T_iload (pc := 92) C dX5_addTravellers_92 0 rfl ?_
        refine T_bipush (pc := 94) C dX5_addTravellers_94 (by decide) ?_
        refine T_imul (pc := 96) C dX5_addTravellers_96 ?_
        refine T_iload (pc := 97) C dX5_addTravellers_97 4 rfl ?_
        refine T_iadd (pc := 99) C dX5_addTravellers_99 ?_
        refine T_dup2 (pc := 100) C dX5_addTravellers_100 rfl rfl ?_
        refine T_guard (fun g39 => ?_)
        refine Tc_iald (pc := 101) C (r0 + 1) 21 100 ((v38 * 10) + x4).toNat (kd_5 k0).1 ⟨by decide, by decide⟩ rfl g39 rfl dX5_addTravellers_101 (fun z40 => ?_)
        refine T_iload_n (pc := 102) C dX5_addTravellers_102 rfl 3 rfl ?_
        refine T_isub (pc := 103) C dX5_addTravellers_103 ?_
        refine T_guard (fun g41 => ?_)
        refine Tc_iast (pc := 104) C (r0 + 1) 21 100 ((v38 * 10) + x4).toNat (kd_5 k0).1 ⟨by decide, by decide⟩ rfl g39 rfl g41 dX5_addTravellers_104 ?_
        refine T_blS (fun s42 => ?_)
        refine T_aload_n (pc := 105) C dX5_addTravellers_105 rfl 1 rfl ?_
        refine Tc_getr (pc := 106) C r0 5 0 7 k0 (by decide) (fun _ => rfl) rfl inX5 (by decide) (v := .ref (ad (r0 + 1))) rfl kc_202 dX5_addTravellers_106 ?_
        refine T_iload (pc := 109) C dX5_addTravellers_109 4 rfl ?_
        refine T_bipush (pc := 111) C dX5_addTravellers_111 (by decide) ?_
        refine T_imul (pc := 113) C dX5_addTravellers_113 ?_
        refine T_iload (pc := 114) C dX5_addTravellers_114 0 rfl ?_
        refine T_iadd (pc := 116) C dX5_addTravellers_116 ?_
        refine T_dup2 (pc := 117) C dX5_addTravellers_117 rfl rfl ?_
        refine T_guard (fun g43 => ?_)
        refine Tc_iald (pc := 118) C (r0 + 1) 21 100 ((x4 * 10) + v38).toNat (kd_5 k0).1 ⟨by decide, by decide⟩ rfl g43 rfl dX5_addTravellers_118 (fun z44 => ?_)
        refine T_iload_n (pc := 119) C dX5_addTravellers_119 rfl 3 rfl ?_
        refine T_iadd (pc := 120) C dX5_addTravellers_120 ?_
        refine T_guard (fun g45 => ?_)
        refine Tc_iast (pc := 121) C (r0 + 1) 21 100 ((x4 * 10) + v38).toNat (kd_5 k0).1 ⟨by decide, by decide⟩ rfl g43 rfl g45 dX5_addTravellers_121 ?_
        refine T_blS (fun s46 => ?_)
        refine T_iload (pc := 122) C dX5_addTravellers_122 0 rfl ?_
        refine T_istore (pc := 124) (L' := [(4, vi v38), (6, vi v38), (0, .ref (ad r0)), (1, vi x1), (3, vi x3), (5, vi x5)]) C dX5_addTravellers_124 (Nat.le_of_ble_eq_true rfl) rfl ?_
        refine T_iinc (pc := 126) (L' := [(5, vi (x5 + 1)), (4, vi v38), (6, vi v38), (0, .ref (ad r0)), (1, vi x1), (3, vi x3)]) C dX5_addTravellers_126 (Nat.le_of_ble_eq_true rfl) 5 rfl rfl ?_
        refine T_goto (pc := 129) C 66 dX5_addTravellers_129 rfl ?_
        refine T_sub (L' := [(0, .ref (ad r0)), (1, vi x1), (3, vi x3), (4, vi v38), (5, vi (x5 + 1))]) [3, 4, 5, 1, 0] rfl ?_
        exact ih s46 v38 (x5 + 1) hv38 (rng_inc c34 h5 (rngL rfl))
def f_X5_addTravellers (N : Nat) (σ : Sm) (r0 : Nat) (x1 : Int) (x2 : Int) : Option (Sm × Int) :=
  (f_X5_addTravellers_9 σ r0 x1 x2 N 1000000000 x2 0).bind fun q20 => (f_X5_addTravellers_66 r0 x1 q20 N σ x2 0).bind fun q47 => some (q47, q20)
theorem ct_X5_addTravellers {l : Launch} {cy : Nat → ClassId} {ad : Nat → Nat} {E : Nat → Nat → Nat} {G : va_G} {Z : vZ} (zk : Zk Z E) (N : Nat) (σ : Sm) (r0 : Nat) (x1 : Int) (x2 : Int) (k0 : kd r0 = 5) (h1 : rng x1) (h2 : rng x2) (hw : wfc σ) (o : Sm × Int) (h : f_X5_addTravellers N σ r0 x1 x2 = some o) : CzI Z l yX5_addTravellers cX5_addTravellers 7 (some .int) rm_X5_addTravellers (wlc cy ad E) wfc G (tyc cy) [.ref (ad r0), vi x1, vi x2] σ o.1 o.2 := by
  refine czI_of zk.1 (plainFor_of_name (by decide)) (Nat.le_of_ble_eq_true rfl) hw o o h (fun X Y w => EndI X Y cX5_addTravellers rm_X5_addTravellers .int w) (fun _ _ h => h) (fun X A Q hZ hX C => ?_)
  replace C : Cx X (Yc cy ad E G A 7 Q) cX5_addTravellers RX5 (some .int) rm_X5_addTravellers (tyc cy) := C
  replace hZ : Zx Z X (Yc cy ad E G A 7 Q) := hZ
  show T X (Yc cy ad E G A 7 Q) (fun w => EndI X (Yc cy ad E G A 7 Q) cX5_addTravellers rm_X5_addTravellers .int w) 0 0 0 [(0, .ref (ad r0)), (1, vi x1), (2, vi x2)] [] σ (f_X5_addTravellers N σ r0 x1 x2)
  unfold f_X5_addTravellers
  refine T_ldc (pc := 0) C 1000000000 dX5_addTravellers_0 kc_201 (by decide) ?_
  refine T_istore_n (pc := 2) (L' := [(3, vi 1000000000), (0, .ref (ad r0)), (1, vi x1), (2, vi x2)]) C dX5_addTravellers_2 rfl (Nat.le_of_ble_eq_true rfl) rfl ?_
  refine T_iload_n (pc := 3) C dX5_addTravellers_3 rfl 3 rfl ?_
  refine T_istore (pc := 4) (L' := [(4, vi x2), (3, vi 1000000000), (0, .ref (ad r0)), (1, vi x1), (2, vi x2)]) C dX5_addTravellers_4 (Nat.le_of_ble_eq_true rfl) rfl ?_
  refine T_iconst (pc := 6) C dX5_addTravellers_6 ?_
  refine T_istore (pc := 7) (L' := [(5, vi 0), (4, vi x2), (3, vi 1000000000), (0, .ref (ad r0)), (1, vi x1), (2, vi x2)]) C dX5_addTravellers_7 (Nat.le_of_ble_eq_true rfl) rfl ?_
  refine T_sub (L' := [(0, .ref (ad r0)), (1, vi x1), (2, vi x2), (3, vi 1000000000), (4, vi x2), (5, vi 0)]) [3, 4, 5, 2, 1, 0] rfl ?_
  refine T_loopE (lp_X5_addTravellers_9 zk hZ C σ r0 k0 x1 x2 h1 h2 N 1000000000 x2 0 (rngL rfl) h2 (rngL rfl)) (fun q20 hq20 => ?_)
  refine T_iload_n (pc := 60) C dX5_addTravellers_60 rfl 2 rfl ?_
  refine T_istore (pc := 61) (L' := [(4, vi x2), (0, .ref (ad r0)), (1, vi x1), (2, vi x2), (3, vi q20)]) C dX5_addTravellers_61 (Nat.le_of_ble_eq_true rfl) rfl ?_
  refine T_iconst (pc := 63) C dX5_addTravellers_63 ?_
  refine T_istore (pc := 64) (L' := [(5, vi 0), (4, vi x2), (0, .ref (ad r0)), (1, vi x1), (2, vi x2), (3, vi q20)]) C dX5_addTravellers_64 (Nat.le_of_ble_eq_true rfl) rfl ?_
  refine T_sub (L' := [(0, .ref (ad r0)), (1, vi x1), (3, vi q20), (4, vi x2), (5, vi 0)]) [2, 3, 5, 1, 0] rfl ?_
  refine T_loopE (lp_X5_addTravellers_66 zk hZ C r0 k0 x1 q20 h1 hq20 N σ x2 0 h2 (rngL rfl)) (fun q47 hq47 => ?_)
  refine T_iload_n (pc := 132) C dX5_addTravellers_132 rfl 0 rfl ?_
  exact T_iret (pc := 133) (q47, q20) (fun h9 => h9) hq20 (nar_I _) (by decide) dX5_addTravellers_133

abbrev rm_X5_findWay : Room := ⟨1, 0, 0, 23⟩
theorem cm_X5_findWay : cmV yX5_findWay cX5_findWay 9 (some .boolean) 3 := ⟨kc_20, kc_205, ⟨by decide +kernel, by decide +kernel, by decide +kernel⟩, kc_210, kc_211⟩
def f_X5_findWay_47 (r0 : Nat) (x1 : Int) (x3 : Int) (x5 : Int) (x6 : Int) : Nat → Sm → Int → Int → Option (Sm × Int)
  | 0, _, _, _ => none
  | n + 1, s0, x4, x7 => (if x1 ≤ x7 then some (s0, x4) else if 0 ≤ x7 ∧ x7 < 10 then (if (s0 (r0 + 2) x7.toNat) = (-1) then if 0 ≤ ((x6 * 10) + x7) ∧ ((x6 * 10) + x7) < 100 then (if (s0 (r0 + 1) ((x6 * 10) + x7).toNat) ≤ 0 then f_X5_findWay_47 r0 x1 x3 x5 x6 n s0 x4 (x7 + 1) else (if 10 ≤ x4 then f_X5_findWay_47 r0 x1 x3 x5 x6 n s0 x4 (x7 + 1) else bl (upm s0 (r0 + 2) x7.toNat x6) fun s90 => if 0 ≤ x4 ∧ x4 < 10 then bl (upm s90 (r0 + 3) x4.toNat x7) fun s92 => f_X5_findWay_47 r0 x1 x3 x5 x6 n s92 (x4 + 1) (x7 + 1) else none)) else none else f_X5_findWay_47 r0 x1 x3 x5 x6 n s0 x4 (x7 + 1)) else none)
theorem lp_X5_findWay_47 {X : vjX} {A : Nat → Prop} {Q : State → Prop} {cy : Nat → ClassId} {ad : Nat → Nat} {E : Nat → Nat → Nat} {G : va_G} {Z : vZ} (zk : Zk Z E) (hZ : Zx Z X (Yc cy ad E G A 9 Q)) (C : Cx X (Yc cy ad E G A 9 Q) cX5_findWay RX5 (some .boolean) rm_X5_findWay (tyc cy)) (r0 : Nat) (k0 : kd r0 = 5) (x1 : Int) (x3 : Int) (x5 : Int) (x6 : Int) (h1 : rng x1) (h3 : rng x3) (h5 : rng x5) (h6 : rng x6) : ∀ (n : Nat) (s0 : Sm) (x4 : Int) (x7 : Int) (h4 : rng x4) (h7 : rng x7), T X (Yc cy ad E G A 9 Q) (fun (q : Sm × Int) => rng q.2 → J X (Yc cy ad E G A 9 Q) 0 0 126 [(0, .ref (ad r0)), (1, vi x1), (3, vi x3), (4, vi q.2), (5, vi x5)] [] q.1) 0 0 47 [(0, .ref (ad r0)), (1, vi x1), (3, vi x3), (4, vi x4), (5, vi x5), (6, vi x6), (7, vi x7)] [] s0 (f_X5_findWay_47 r0 x1 x3 x5 x6 n s0 x4 x7) := by
  intro n
  induction n with
  | zero => intro s0 x4 x7 h4 h7; exact T_none
  | succ n ih =>
    intro s0 x4 x7 h4 h7
    rw [f_X5_findWay_47]
    refine T_iload (pc := 47) C dX5_findWay_47 6 rfl ?_
    refine T_iload_n (pc := 49) C dX5_findWay_49 rfl 1 rfl ?_
    refine T_icmp_ge (pc := 50) C 126 dX5_findWay_50 rfl h7 h1 (fun c79 => ?_) (fun c79 => ?_)
    · refine T_sub (L' := [(0, .ref (ad r0)), (1, vi x1), (3, vi x3), (4, vi x4), (5, vi x5)]) [0, 1, 2, 3, 4] rfl ?_
      exact T_exit (fun h9 => h9 h4)
    · refine T_aload_n (pc := 53) C dX5_findWay_53 rfl 0 rfl ?_
      refine Tc_getr (pc := 54) C r0 5 1 7 k0 (by decide) (fun _ => rfl) rfl inX5 (by decide) (v := .ref (ad (r0 + 2))) rfl kc_203 dX5_findWay_54 ?_
      refine T_iload (pc := 57) C dX5_findWay_57 6 rfl ?_
      refine T_guard (fun g80 => ?_)
      refine Tc_iald (pc := 59) C (r0 + 2) 20 10 x7.toNat (kd_5 k0).2.1 ⟨by decide, by decide⟩ rfl g80 rfl dX5_findWay_59 (fun z81 => ?_)
      refine T_iconst (pc := 60) C dX5_findWay_60 ?_
      refine T_icmp_ne (pc := 61) C 84 dX5_findWay_61 rfl z81 (rngL rfl) (fun c82 => ?_) (fun c82 => ?_)
      · refine T_iconst (pc := 84) C dX5_findWay_84 ?_
        refine T_istore (pc := 85) (L' := [(8, vi 0), (0, .ref (ad r0)), (1, vi x1), (3, vi x3), (4, vi x4), (5, vi x5), (6, vi x6), (7, vi x7)]) C dX5_findWay_85 (Nat.le_of_ble_eq_true rfl) rfl ?_
        refine T_iload (pc := 87) C dX5_findWay_87 0 rfl ?_
        refine T_if_eq_t (pc := 89) C 120 dX5_findWay_89 rfl (rngL rfl) (by decide) ?_
        refine T_iinc (pc := 120) (L' := [(7, vi (x7 + 1)), (8, vi 0), (0, .ref (ad r0)), (1, vi x1), (3, vi x3), (4, vi x4), (5, vi x5), (6, vi x6)]) C dX5_findWay_120 (Nat.le_of_ble_eq_true rfl) 7 rfl rfl ?_
        refine T_goto (pc := 123) C 47 dX5_findWay_123 rfl ?_
        refine T_sub (L' := [(0, .ref (ad r0)), (1, vi x1), (3, vi x3), (4, vi x4), (5, vi x5), (6, vi x6), (7, vi (x7 + 1))]) [2, 3, 4, 5, 6, 7, 0] rfl ?_
        exact ih s0 x4 (x7 + 1) h4 (rng_inc c79 h7 h1)
      · refine T_aload_n (pc := 64) C dX5_findWay_64 rfl 0 rfl ?_
        refine Tc_getr (pc := 65) C r0 5 0 7 k0 (by decide) (fun _ => rfl) rfl inX5 (by decide) (v := .ref (ad (r0 + 1))) rfl kc_202 dX5_findWay_65 ?_
        refine T_iload (pc := 68) C dX5_findWay_68 5 rfl ?_
        refine T_bipush (pc := 70) C dX5_findWay_70 (by decide) ?_
        refine T_imul (pc := 72) C dX5_findWay_72 ?_
        refine T_iload (pc := 73) C dX5_findWay_73 6 rfl ?_
        refine T_iadd (pc := 75) C dX5_findWay_75 ?_
        refine T_guard (fun g84 => ?_)
        refine Tc_iald (pc := 76) C (r0 + 1) 21 100 ((x6 * 10) + x7).toNat (kd_5 k0).1 ⟨by decide, by decide⟩ rfl g84 rfl dX5_findWay_76 (fun z85 => ?_)
        refine T_if_le (pc := 77) C 84 dX5_findWay_77 rfl z85 (fun c86 => ?_) (fun c86 => ?_)
        · refine T_iconst (pc := 84) C dX5_findWay_84 ?_
          refine T_istore (pc := 85) (L' := [(8, vi 0), (0, .ref (ad r0)), (1, vi x1), (3, vi x3), (4, vi x4), (5, vi x5), (6, vi x6), (7, vi x7)]) C dX5_findWay_85 (Nat.le_of_ble_eq_true rfl) rfl ?_
          refine T_iload (pc := 87) C dX5_findWay_87 0 rfl ?_
          refine T_if_eq_t (pc := 89) C 120 dX5_findWay_89 rfl (rngL rfl) (by decide) ?_
          refine T_iinc (pc := 120) (L' := [(7, vi (x7 + 1)), (8, vi 0), (0, .ref (ad r0)), (1, vi x1), (3, vi x3), (4, vi x4), (5, vi x5), (6, vi x6)]) C dX5_findWay_120 (Nat.le_of_ble_eq_true rfl) 7 rfl rfl ?_
          refine T_goto (pc := 123) C 47 dX5_findWay_123 rfl ?_
          refine T_sub (L' := [(0, .ref (ad r0)), (1, vi x1), (3, vi x3), (4, vi x4), (5, vi x5), (6, vi x6), (7, vi (x7 + 1))]) [2, 3, 4, 5, 6, 7, 0] rfl ?_
          exact ih s0 x4 (x7 + 1) h4 (rng_inc c79 h7 h1)
        · refine T_iconst (pc := 80) C dX5_findWay_80 ?_
          refine T_goto (pc := 81) C 85 dX5_findWay_81 rfl ?_
          refine T_istore (pc := 85) (L' := [(8, vi 1), (0, .ref (ad r0)), (1, vi x1), (3, vi x3), (4, vi x4), (5, vi x5), (6, vi x6), (7, vi x7)]) C dX5_findWay_85 (Nat.le_of_ble_eq_true rfl) rfl ?_
          refine T_iload (pc := 87) C dX5_findWay_87 0 rfl ?_
          refine T_if_eq_f (pc := 89) C 120 dX5_findWay_89 rfl (rngL rfl) (by decide) ?_
          refine T_iload (pc := 92) C dX5_findWay_92 4 rfl ?_
          refine T_bipush (pc := 94) C dX5_findWay_94 (by decide) ?_
          refine T_icmp_ge (pc := 96) C 120 dX5_findWay_96 rfl h4 (rngL rfl) (fun c89 => ?_) (fun c89 => ?_)
          · refine T_iinc (pc := 120) (L' := [(7, vi (x7 + 1)), (8, vi 1), (0, .ref (ad r0)), (1, vi x1), (3, vi x3), (4, vi x4), (5, vi x5), (6, vi x6)]) C dX5_findWay_120 (Nat.le_of_ble_eq_true rfl) 7 rfl rfl ?_
            refine T_goto (pc := 123) C 47 dX5_findWay_123 rfl ?_
            refine T_sub (L' := [(0, .ref (ad r0)), (1, vi x1), (3, vi x3), (4, vi x4), (5, vi x5), (6, vi x6), (7, vi (x7 + 1))]) [2, 3, 4, 5, 6, 7, 0] rfl ?_
            exact ih s0 x4 (x7 + 1) h4 (rng_inc c79 h7 h1)
          · refine T_aload_n (pc := 99) C dX5_findWay_99 rfl 1 rfl ?_
            refine Tc_getr (pc := 100) C r0 5 1 7 k0 (by decide) (fun _ => rfl) rfl inX5 (by decide) (v := .ref (ad (r0 + 2))) rfl kc_203 dX5_findWay_100 ?_
            refine T_iload (pc := 103) C dX5_findWay_103 7 rfl ?_
            refine T_iload (pc := 105) C dX5_findWay_105 6 rfl ?_
            refine Tc_iast (pc := 107) C (r0 + 2) 20 10 x7.toNat (kd_5 k0).2.1 ⟨by decide, by decide⟩ rfl g80 rfl h6 dX5_findWay_107 ?_
            refine T_blS (fun s90 => ?_)
            refine T_aload_n (pc := 108) C dX5_findWay_108 rfl 1 rfl ?_
            refine Tc_getr (pc := 109) C r0 5 2 7 k0 (by decide) (fun _ => rfl) rfl inX5 (by decide) (v := .ref (ad (r0 + 3))) rfl kc_209 dX5_findWay_109 ?_
            refine T_iload (pc := 112) C dX5_findWay_112 4 rfl ?_
            refine T_iload (pc := 114) C dX5_findWay_114 7 rfl ?_
            refine T_guard (fun g91 => ?_)
            refine Tc_iast (pc := 116) C (r0 + 3) 20 10 x4.toNat (kd_5 k0).2.2.1 ⟨by decide, by decide⟩ rfl g91 rfl h7 dX5_findWay_116 ?_
            refine T_blS (fun s92 => ?_)
            refine T_iinc (pc := 117) (L' := [(4, vi (x4 + 1)), (8, vi 1), (0, .ref (ad r0)), (1, vi x1), (3, vi x3), (5, vi x5), (6, vi x6), (7, vi x7)]) C dX5_findWay_117 (Nat.le_of_ble_eq_true rfl) 4 rfl rfl ?_
            refine T_iinc (pc := 120) (L' := [(7, vi (x7 + 1)), (4, vi (x4 + 1)), (8, vi 1), (0, .ref (ad r0)), (1, vi x1), (3, vi x3), (5, vi x5), (6, vi x6)]) C dX5_findWay_120 (Nat.le_of_ble_eq_true rfl) 7 rfl rfl ?_
            refine T_goto (pc := 123) C 47 dX5_findWay_123 rfl ?_
            refine T_sub (L' := [(0, .ref (ad r0)), (1, vi x1), (3, vi x3), (4, vi (x4 + 1)), (5, vi x5), (6, vi x6), (7, vi (x7 + 1))]) [3, 4, 5, 1, 6, 7, 0] rfl ?_
            exact ih s92 (x4 + 1) (x7 + 1) (rng_inc c89 h4 (rngL rfl)) (rng_inc c79 h7 h1)
def f_X5_findWay_28 (N : Nat) (r0 : Nat) (x1 : Int) (x3 : Int) : Nat → Sm → Int → Int → Option (Sm)
  | 0, _, _, _ => none
  | n + 1, s0, x4, x5 => (if x4 ≤ x5 then some s0 else if 0 ≤ x5 ∧ x5 < 10 then bl (s0 (r0 + 3) x5.toNat) fun v72 => (f_X5_findWay_47 r0 x1 x3 x5 v72 N s0 x4 0).bind fun q93 => f_X5_findWay_28 N r0 x1 x3 n q93.1 q93.2 (x5 + 1) else none)
theorem lp_X5_findWay_28 {X : vjX} {A : Nat → Prop} {Q : State → Prop} {cy : Nat → ClassId} {ad : Nat → Nat} {E : Nat → Nat → Nat} {G : va_G} {Z : vZ} (zk : Zk Z E) (hZ : Zx Z X (Yc cy ad E G A 9 Q)) (C : Cx X (Yc cy ad E G A 9 Q) cX5_findWay RX5 (some .boolean) rm_X5_findWay (tyc cy)) (N : Nat) (r0 : Nat) (k0 : kd r0 = 5) (x1 : Int) (x3 : Int) (h1 : rng x1) (h3 : rng x3) : ∀ (n : Nat) (s0 : Sm) (x4 : Int) (x5 : Int) (h4 : rng x4) (h5 : rng x5), T X (Yc cy ad E G A 9 Q) (fun (q : Sm) => True → J X (Yc cy ad E G A 9 Q) 0 0 132 [(0, .ref (ad r0)), (3, vi x3)] [] q) 0 0 28 [(0, .ref (ad r0)), (1, vi x1), (3, vi x3), (4, vi x4), (5, vi x5)] [] s0 (f_X5_findWay_28 N r0 x1 x3 n s0 x4 x5) := by
  intro n
  induction n with
  | zero => intro s0 x4 x5 h4 h5; exact T_none
  | succ n ih =>
    intro s0 x4 x5 h4 h5
    rw [f_X5_findWay_28]
    refine T_iload (pc := 28) C dX5_findWay_28 4 rfl ?_
    refine T_iload (pc := 30) C dX5_findWay_30 3 rfl ?_
    refine T_icmp_ge (pc := 32) C 132 dX5_findWay_32 rfl h5 h4 (fun c69 => ?_) (fun c69 => ?_)
    · refine T_sub (L' := [(0, .ref (ad r0)), (3, vi x3)]) [0, 2] rfl ?_
      exact T_exit (fun h9 => h9 trivial)
    · refine T_aload_n (pc := 35) C dX5_findWay_35 rfl 0 rfl ?_
      refine Tc_getr (pc := 36) C r0 5 2 7 k0 (by decide) (fun _ => rfl) rfl inX5 (by decide) (v := .ref (ad (r0 + 3))) rfl kc_209 dX5_findWay_36 ?_
      refine T_iload (pc := 39) C dX5_findWay_39 4 rfl ?_
      refine T_guard (fun g70 => ?_)
      refine Tc_iald (pc := 41) C (r0 + 3) 20 10 x5.toNat (kd_5 k0).2.2.1 ⟨by decide, by decide⟩ rfl g70 rfl dX5_findWay_41 (fun z71 => ?_)
      refine T_blV z71 (fun v72 hv72 => ?_)
      refine T_istore (pc := 42) (L' := [(6, vi v72), (0, .ref (ad r0)), (1, vi x1), (3, vi x3), (4, vi x4), (5, vi x5)]) C dX5_findWay_42 (Nat.le_of_ble_eq_true rfl) rfl ?_
      refine T_iconst (pc := 44) C dX5_findWay_44 ?_
      refine T_istore (pc := 45) (L' := [(7, vi 0), (6, vi v72), (0, .ref (ad r0)), (1, vi x1), (3, vi x3), (4, vi x4), (5, vi x5)]) C dX5_findWay_45 (Nat.le_of_ble_eq_true rfl) rfl ?_
      refine T_sub (L' := [(0, .ref (ad r0)), (1, vi x1), (3, vi x3), (4, vi x4), (5, vi x5), (6, vi v72), (7, vi 0)]) [2, 3, 4, 5, 6, 1, 0] rfl ?_
      refine T_loopE (lp_X5_findWay_47 zk hZ C r0 k0 x1 x3 x5 v72 h1 h3 h5 hv72 N s0 x4 0 h4 (rngL rfl)) (fun q93 hq93 => ?_)
      refine T_iinc (pc := 126) (L' := [(5, vi (x5 + 1)), (0, .ref (ad r0)), (1, vi x1), (3, vi x3), (4, vi q93.2)]) C dX5_findWay_126 (Nat.le_of_ble_eq_true rfl) 4 rfl rfl ?_
      refine T_goto (pc := 129) C 28 dX5_findWay_129 rfl ?_
      refine T_sub (L' := [(0, .ref (ad r0)), (1, vi x1), (3, vi x3), (4, vi q93.2), (5, vi (x5 + 1))]) [1, 2, 3, 4, 0] rfl ?_
      exact ih q93.1 q93.2 (x5 + 1) hq93 (rng_inc c69 h5 h4)
def f_X5_findWay (N : Nat) (σ : Sm) (r0 : Nat) (x1 : Int) (x2 : Int) (x3 : Int) : Option (Sm × Int) :=
  (f_J7_fill_53178 N σ (r0 + 2) 20 (-1)).bind fun s1 => if 0 ≤ x2 ∧ x2 < 10 then bl (upm s1 (r0 + 2) x2.toNat x2) fun s3 => bl (upm s3 (r0 + 3) 0 x2) fun s4 => (f_X5_findWay_28 N r0 x1 x3 N s4 1 0).bind fun q94 => if 0 ≤ x3 ∧ x3 < 10 then (if (q94 (r0 + 2) x3.toNat) = (-1) then some (q94, 0) else some (q94, 1)) else none else none
theorem ct_X5_findWay {l : Launch} {cy : Nat → ClassId} {ad : Nat → Nat} {E : Nat → Nat → Nat} {G : va_G} {Z : vZ} (zk : Zk Z E) (N : Nat) (σ : Sm) (r0 : Nat) (x1 : Int) (x2 : Int) (x3 : Int) (k0 : kd r0 = 5) (h1 : rng x1) (h2 : rng x2) (h3 : rng x3) (hw : wfc σ) (o : Sm × Int) (h : f_X5_findWay N σ r0 x1 x2 x3 = some o) : CzI Z l yX5_findWay cX5_findWay 9 (some .boolean) rm_X5_findWay (wlc cy ad E) wfc G (tyc cy) [.ref (ad r0), vi x1, vi x2, vi x3] σ o.1 o.2 := by
  refine czI_of zk.1 (plainFor_of_name (by decide)) (Nat.le_of_ble_eq_true rfl) hw o o h (fun X Y w => EndI X Y cX5_findWay rm_X5_findWay .boolean w) (fun _ _ h => h) (fun X A Q hZ hX C => ?_)
  replace C : Cx X (Yc cy ad E G A 9 Q) cX5_findWay RX5 (some .boolean) rm_X5_findWay (tyc cy) := C
  replace hZ : Zx Z X (Yc cy ad E G A 9 Q) := hZ
  show T X (Yc cy ad E G A 9 Q) (fun w => EndI X (Yc cy ad E G A 9 Q) cX5_findWay rm_X5_findWay .boolean w) 0 0 0 [(0, .ref (ad r0)), (1, vi x1), (2, vi x2), (3, vi x3)] [] σ (f_X5_findWay N σ r0 x1 x2 x3)
  unfold f_X5_findWay
  refine T_aload_n (pc := 0) C dX5_findWay_0 rfl 0 rfl ?_
  refine Tc_getr (pc := 1) C r0 5 1 7 k0 (by decide) (fun _ => rfl) rfl inX5 (by decide) (v := .ref (ad (r0 + 2))) rfl kc_203 dX5_findWay_1 ?_
  refine T_iconst (pc := 4) C dX5_findWay_4 ?_
  refine T_czSv (pc := 5) zk.1 hZ C [.ref (ad (r0 + 2)), vi (-1)] [] (fun o h9 hw => ct_J7_fill_53178 zk N σ (r0 + 2) 20 (-1) (kd_5 k0).2.1 ⟨by decide, by decide⟩ (rngL rfl) hw o h9) kc_208 cm_J7_fill_53178 rfl rfl (Nat.le_of_ble_eq_true rfl) (by decide) (a' := 0) (b' := 0) ⟨rfl, rfl⟩ dX5_findWay_5 (fun s1 => ?_)
  refine T_aload_n (pc := 8) C dX5_findWay_8 rfl 0 rfl ?_
  refine Tc_getr (pc := 9) C r0 5 1 7 k0 (by decide) (fun _ => rfl) rfl inX5 (by decide) (v := .ref (ad (r0 + 2))) rfl kc_203 dX5_findWay_9 ?_
  refine T_iload_n (pc := 12) C dX5_findWay_12 rfl 2 rfl ?_
  refine T_iload_n (pc := 13) C dX5_findWay_13 rfl 2 rfl ?_
  refine T_guard (fun g2 => ?_)
  refine Tc_iast (pc := 14) C (r0 + 2) 20 10 x2.toNat (kd_5 k0).2.1 ⟨by decide, by decide⟩ rfl g2 rfl h2 dX5_findWay_14 ?_
  refine T_blS (fun s3 => ?_)
  refine T_aload_n (pc := 15) C dX5_findWay_15 rfl 0 rfl ?_
  refine Tc_getr (pc := 16) C r0 5 2 7 k0 (by decide) (fun _ => rfl) rfl inX5 (by decide) (v := .ref (ad (r0 + 3))) rfl kc_209 dX5_findWay_16 ?_
  refine T_iconst (pc := 19) C dX5_findWay_19 ?_
  refine T_iload_n (pc := 20) C dX5_findWay_20 rfl 2 rfl ?_
  refine Tc_iast (pc := 21) C (r0 + 3) 20 10 0 (kd_5 k0).2.2.1 ⟨by decide, by decide⟩ rfl ⟨by decide, by decide⟩ rfl h2 dX5_findWay_21 ?_
  refine T_blS (fun s4 => ?_)
  refine T_iconst (pc := 22) C dX5_findWay_22 ?_
  refine T_istore (pc := 23) (L' := [(4, vi 1), (0, .ref (ad r0)), (1, vi x1), (2, vi x2), (3, vi x3)]) C dX5_findWay_23 (Nat.le_of_ble_eq_true rfl) rfl ?_
  refine T_iconst (pc := 25) C dX5_findWay_25 ?_
  refine T_istore (pc := 26) (L' := [(5, vi 0), (4, vi 1), (0, .ref (ad r0)), (1, vi x1), (2, vi x2), (3, vi x3)]) C dX5_findWay_26 (Nat.le_of_ble_eq_true rfl) rfl ?_
  refine T_sub (L' := [(0, .ref (ad r0)), (1, vi x1), (3, vi x3), (4, vi 1), (5, vi 0)]) [2, 3, 5, 1, 0] rfl ?_
  refine T_loopE (lp_X5_findWay_28 zk hZ C N r0 k0 x1 x3 h1 h3 N s4 1 0 (rngL rfl) (rngL rfl)) (fun q94 hq94 => ?_)
  refine T_aload_n (pc := 132) C dX5_findWay_132 rfl 0 rfl ?_
  refine Tc_getr (pc := 133) C r0 5 1 7 k0 (by decide) (fun _ => rfl) rfl inX5 (by decide) (v := .ref (ad (r0 + 2))) rfl kc_203 dX5_findWay_133 ?_
  refine T_iload_n (pc := 136) C dX5_findWay_136 rfl 1 rfl ?_
  refine T_guard (fun g95 => ?_)
  refine Tc_iald (pc := 137) C (r0 + 2) 20 10 x3.toNat (kd_5 k0).2.1 ⟨by decide, by decide⟩ rfl g95 rfl dX5_findWay_137 (fun z96 => ?_)
  refine T_iconst (pc := 138) C dX5_findWay_138 ?_
  refine T_icmp_eq (pc := 139) C 146 dX5_findWay_139 rfl z96 (rngL rfl) (fun c97 => ?_) (fun c97 => ?_)
  · refine T_iconst (pc := 146) C dX5_findWay_146 ?_
    exact T_iret (pc := 147) (q94, 0) (fun h9 => h9) (rngL rfl) (nar_Z (Or.inl rfl)) (by decide) dX5_findWay_147
  · refine T_iconst (pc := 142) C dX5_findWay_142 ?_
    refine T_goto (pc := 143) C 147 dX5_findWay_143 rfl ?_
    exact T_iret (pc := 147) (q94, 1) (fun h9 => h9) (rngL rfl) (nar_Z (Or.inr rfl)) (by decide) dX5_findWay_147

abbrev rm_X5_gatherHops : Room := ⟨1, 0, 0, 21⟩
theorem cm_X5_gatherHops : cmV yX5_gatherHops cX5_gatherHops 6 none 1 := ⟨kc_18, kc_205, ⟨by decide +kernel, by decide +kernel, by decide +kernel⟩, kc_222, kc_223⟩
def f_X5_gatherHops_42 (r0 : Nat) (r1 : Nat) (r3 : Nat) (x2 : Int) (x4 : Int) : Nat → Sm → Int → Option (Sm)
  | 0, _, _ => none
  | n + 1, s0, x5 => (if x4 ≤ x5 then some s0 else (if 30 ≤ (s0 r0 3) then some s0 else (f_X7_stopOn s0 r3 x5).bind fun v73 => if 0 ≤ (s0 r0 3) ∧ (s0 r0 3) < 30 then bl (upm s0 (r0 + 4) (s0 r0 3).toNat v73) fun s75 => (f_X7_stopOn s75 r3 (x5 + 1)).bind fun v77 => if 0 ≤ (s75 r0 3) ∧ (s75 r0 3) < 30 then bl (upm s75 (r0 + 5) (s75 r0 3).toNat v77) fun s79 => if 0 ≤ (s79 r0 3) ∧ (s79 r0 3) < 30 then bl (upm s79 (r0 + 6) (s79 r0 3).toNat (s79 r3 4)) fun s83 => if rng ((s83 r0 3) + 1) then bl (upm s83 r0 3 ((s83 r0 3) + 1)) fun s86 => f_X5_gatherHops_42 r0 r1 r3 x2 x4 n s86 (x5 + 1) else none else none else none else none))
theorem lp_X5_gatherHops_42 {X : vjX} {A : Nat → Prop} {Q : State → Prop} {cy : Nat → ClassId} {ad : Nat → Nat} {E : Nat → Nat → Nat} {G : va_G} {Z : vZ} (zk : Zk Z E) (hZ : Zx Z X (Yc cy ad E G A 6 Q)) (C : Cx X (Yc cy ad E G A 6 Q) cX5_gatherHops RX5 none rm_X5_gatherHops (tyc cy)) (r0 : Nat) (r1 : Nat) (r3 : Nat) (k0 : kd r0 = 5) (k1 : kd r1 = 8) (k3 : kd r3 = 7) (x2 : Int) (x4 : Int) (h2 : rng x2) (h4 : rng x4) : ∀ (n : Nat) (s0 : Sm) (x5 : Int) (h5 : rng x5), T X (Yc cy ad E G A 6 Q) (fun (q : Sm) => True → J X (Yc cy ad E G A 6 Q) 0 0 119 [(0, .ref (ad r0)), (1, .ref (ad r1)), (2, vi x2)] [] q) 0 0 42 [(0, .ref (ad r0)), (1, .ref (ad r1)), (2, vi x2), (3, .ref (ad r3)), (4, vi x4), (5, vi x5)] [] s0 (f_X5_gatherHops_42 r0 r1 r3 x2 x4 n s0 x5) := by
  intro n
  induction n with
  | zero => intro s0 x5 h5; exact T_none
  | succ n ih =>
    intro s0 x5 h5
    rw [f_X5_gatherHops_42]
    refine T_iload (pc := 42) C dX5_gatherHops_42 5 rfl ?_
    refine T_iload (pc := 44) C dX5_gatherHops_44 4 rfl ?_
    refine T_icmp_ge (pc := 46) C 119 dX5_gatherHops_46 rfl h5 h4 (fun c69 => ?_) (fun c69 => ?_)
    · refine T_sub (L' := [(0, .ref (ad r0)), (1, .ref (ad r1)), (2, vi x2)]) [0, 1, 2] rfl ?_
      exact T_exit (fun h9 => h9 trivial)
    · refine T_aload_n (pc := 49) C dX5_gatherHops_49 rfl 0 rfl ?_
      refine Tc_geti (pc := 50) C r0 5 3 7 k0 (by decide) (fun _ => rfl) rfl inX5 (by decide) rfl kc_212 dX5_gatherHops_50 (fun z70 => ?_)
      refine T_bipush (pc := 53) C dX5_gatherHops_53 (by decide) ?_
      refine T_icmp_ge (pc := 55) C 119 dX5_gatherHops_55 rfl z70 (rngL rfl) (fun c71 => ?_) (fun c71 => ?_)
      · refine T_sub (L' := [(0, .ref (ad r0)), (1, .ref (ad r1)), (2, vi x2)]) [0, 1, 2] rfl ?_
        exact T_exit (fun h9 => h9 trivial)
      · refine T_aload_n (pc := 58) C dX5_gatherHops_58 rfl 0 rfl ?_
        refine Tc_getr (pc := 59) C r0 5 4 7 k0 (by decide) (fun _ => rfl) rfl inX5 (by decide) (v := .ref (ad (r0 + 4))) rfl kc_216 dX5_gatherHops_59 ?_
        refine T_aload_n (pc := 62) C dX5_gatherHops_62 rfl 0 rfl ?_
        refine Tc_geti (pc := 63) C r0 5 3 7 k0 (by decide) (fun _ => rfl) rfl inX5 (by decide) rfl kc_212 dX5_gatherHops_63 (fun z72 => ?_)
        refine T_aload_n (pc := 66) C dX5_gatherHops_66 rfl 3 rfl ?_
        refine T_iload (pc := 67) C dX5_gatherHops_67 5 rfl ?_
        refine T_czVip (pc := 69) zk.1 hZ C [vi x5] [vi (s0 r0 3), .ref (ad (r0 + 4))] (fun o h9 hw => ct_X7_stopOn zk s0 r3 x5 k3 h5 hw o h9) kc_217 cm_X7_stopOn (rcc k3 (by decide) (fun _ => rfl) rfl) rfl rfl (Nat.le_of_ble_eq_true rfl) (by decide) (a' := 0) (b' := 0) ⟨rfl, rfl⟩ dX5_gatherHops_69 (fun v73 hv73 => ?_)
        refine T_guard (fun g74 => ?_)
        refine Tc_iast (pc := 72) C (r0 + 4) 23 30 (s0 r0 3).toNat (kd_5 k0).2.2.2.1 ⟨by decide, by decide⟩ rfl g74 rfl hv73.1 dX5_gatherHops_72 ?_
        refine T_blS (fun s75 => ?_)
        refine T_aload_n (pc := 73) C dX5_gatherHops_73 rfl 0 rfl ?_
        refine Tc_getr (pc := 74) C r0 5 5 7 k0 (by decide) (fun _ => rfl) rfl inX5 (by decide) (v := .ref (ad (r0 + 5))) rfl kc_218 dX5_gatherHops_74 ?_
        refine T_aload_n (pc := 77) C dX5_gatherHops_77 rfl 0 rfl ?_
        refine Tc_geti (pc := 78) C r0 5 3 7 k0 (by decide) (fun _ => rfl) rfl inX5 (by decide) rfl kc_212 dX5_gatherHops_78 (fun z76 => ?_)
        refine T_aload_n (pc := 81) C dX5_gatherHops_81 rfl 3 rfl ?_
        refine T_iload (pc := 82) C dX5_gatherHops_82 5 rfl ?_
        refine T_iconst (pc := 84) C dX5_gatherHops_84 ?_
        refine T_iadd (pc := 85) C dX5_gatherHops_85 ?_
        refine T_czVip (pc := 86) zk.1 hZ C [vi (x5 + 1)] [vi (s75 r0 3), .ref (ad (r0 + 5))] (fun o h9 hw => ct_X7_stopOn zk s75 r3 (x5 + 1) k3 (rng_inc c69 h5 h4) hw o h9) kc_217 cm_X7_stopOn (rcc k3 (by decide) (fun _ => rfl) rfl) rfl rfl (Nat.le_of_ble_eq_true rfl) (by decide) (a' := 0) (b' := 0) ⟨rfl, rfl⟩ dX5_gatherHops_86 (fun v77 hv77 => ?_)
        refine T_guard (fun g78 => ?_)
        refine Tc_iast (pc := 89) C (r0 + 5) 23 30 (s75 r0 3).toNat (kd_5 k0).2.2.2.2.1 ⟨by decide, by decide⟩ rfl g78 rfl hv77.1 dX5_gatherHops_89 ?_
        refine T_blS (fun s79 => ?_)
        refine T_aload_n (pc := 90) C dX5_gatherHops_90 rfl 0 rfl ?_
        refine Tc_getr (pc := 91) C r0 5 6 7 k0 (by decide) (fun _ => rfl) rfl inX5 (by decide) (v := .ref (ad (r0 + 6))) rfl kc_219 dX5_gatherHops_91 ?_
        refine T_aload_n (pc := 94) C dX5_gatherHops_94 rfl 0 rfl ?_
        refine Tc_geti (pc := 95) C r0 5 3 7 k0 (by decide) (fun _ => rfl) rfl inX5 (by decide) rfl kc_212 dX5_gatherHops_95 (fun z80 => ?_)
        refine T_aload_n (pc := 98) C dX5_gatherHops_98 rfl 3 rfl ?_
        refine Tc_geti (pc := 99) C r3 7 4 8 k3 (by decide) (fun _ => rfl) rfl inX7 (by decide) rfl kc_220 dX5_gatherHops_99 (fun z81 => ?_)
        refine T_guard (fun g82 => ?_)
        refine Tc_iast (pc := 102) C (r0 + 6) 23 30 (s79 r0 3).toNat (kd_5 k0).2.2.2.2.2 ⟨by decide, by decide⟩ rfl g82 rfl z81.1 dX5_gatherHops_102 ?_
        refine T_blS (fun s83 => ?_)
        refine T_aload_n (pc := 103) C dX5_gatherHops_103 rfl 0 rfl ?_
        refine T_dup (pc := 104) C dX5_gatherHops_104 rfl ?_
        refine Tc_geti (pc := 105) C r0 5 3 7 k0 (by decide) (fun _ => rfl) rfl inX5 (by decide) rfl kc_212 dX5_gatherHops_105 (fun z84 => ?_)
        refine T_iconst (pc := 108) C dX5_gatherHops_108 ?_
        refine T_iadd (pc := 109) C dX5_gatherHops_109 ?_
        refine T_guard (fun g85 => ?_)
        refine Tc_put (pc := 110) C (ty := .int) r0 5 3 7 k0 (by decide) (fun _ => rfl) rfl inX5 (by decide) (fun _ => rfl) g85 tyX5 tyX5_ok nmX5 rfl (Nat.le_of_ble_eq_true rfl) kc_212 rfl (nar_I _) (fit_I _) dX5_gatherHops_110 ?_
        refine T_blS (fun s86 => ?_)
        refine T_iinc (pc := 113) (L' := [(5, vi (x5 + 1)), (0, .ref (ad r0)), (1, .ref (ad r1)), (2, vi x2), (3, .ref (ad r3)), (4, vi x4)]) C dX5_gatherHops_113 (Nat.le_of_ble_eq_true rfl) 5 rfl rfl ?_
        refine T_goto (pc := 116) C 42 dX5_gatherHops_116 rfl ?_
        refine T_sub (L' := [(0, .ref (ad r0)), (1, .ref (ad r1)), (2, vi x2), (3, .ref (ad r3)), (4, vi x4), (5, vi (x5 + 1))]) [1, 2, 3, 4, 5, 0] rfl ?_
        exact ih s86 (x5 + 1) (rng_inc c69 h5 h4)
def f_X5_gatherHops_7 (N : Nat) (r0 : Nat) (r1 : Nat) : Nat → Sm → Int → Option (Sm)
  | 0, _, _ => none
  | n + 1, s0, x2 => (if (s0 r1 7) ≤ x2 then some s0 else if 0 ≤ x2 ∧ x2 < 5 then (f_X7_isRunning s0 (r1 + 23 + 2 * x2.toNat)).bind fun v49 => (if v49 = 0 then (f_X5_gatherHops_42 r0 r1 (r1 + 23 + 2 * x2.toNat) x2 0 N s0 0).bind fun q87 => f_X5_gatherHops_7 N r0 r1 n q87 (x2 + 1) else bl (s0 (r1 + 23 + 2 * x2.toNat) 6) fun v89 => (f_X5_gatherHops_42 r0 r1 (r1 + 23 + 2 * x2.toNat) x2 v89 N s0 0).bind fun q90 => f_X5_gatherHops_7 N r0 r1 n q90 (x2 + 1)) else none)
theorem lp_X5_gatherHops_7 {X : vjX} {A : Nat → Prop} {Q : State → Prop} {cy : Nat → ClassId} {ad : Nat → Nat} {E : Nat → Nat → Nat} {G : va_G} {Z : vZ} (zk : Zk Z E) (hZ : Zx Z X (Yc cy ad E G A 6 Q)) (C : Cx X (Yc cy ad E G A 6 Q) cX5_gatherHops RX5 none rm_X5_gatherHops (tyc cy)) (N : Nat) (r0 : Nat) (r1 : Nat) (k0 : kd r0 = 5) (k1 : kd r1 = 8) : ∀ (n : Nat) (s0 : Sm) (x2 : Int) (h2 : rng x2), T X (Yc cy ad E G A 6 Q) (fun (q : Sm) => True → J X (Yc cy ad E G A 6 Q) 0 0 125 [] [] q) 0 0 7 [(0, .ref (ad r0)), (1, .ref (ad r1)), (2, vi x2)] [] s0 (f_X5_gatherHops_7 N r0 r1 n s0 x2) := by
  intro n
  induction n with
  | zero => intro s0 x2 h2; exact T_none
  | succ n ih =>
    intro s0 x2 h2
    rw [f_X5_gatherHops_7]
    refine T_iload_n (pc := 7) C dX5_gatherHops_7 rfl 2 rfl ?_
    refine T_aload_n (pc := 8) C dX5_gatherHops_8 rfl 1 rfl ?_
    refine Tc_geti (pc := 9) C r1 8 7 10 k1 (by decide) (fun _ => rfl) rfl inX8 (by decide) rfl kc_213 dX5_gatherHops_9 (fun z45 => ?_)
    refine T_icmp_ge (pc := 12) C 125 dX5_gatherHops_12 rfl h2 z45.1 (fun c46 => ?_) (fun c46 => ?_)
    · refine T_sub (L' := []) [] rfl ?_
      exact T_exit (fun h9 => h9 trivial)
    · refine T_aload_n (pc := 15) C dX5_gatherHops_15 rfl 1 rfl ?_
      refine Tc_getr (pc := 16) C r1 8 8 10 k1 (by decide) (fun _ => rfl) rfl inX8 (by decide) (v := .ref (ad (r1 + 4))) rfl kc_214 dX5_gatherHops_16 ?_
      refine T_iload_n (pc := 19) C dX5_gatherHops_19 rfl 2 rfl ?_
      refine T_guard (fun g47 => ?_)
      refine Tc_ald27 (pc := 20) C r1 k1 g47 dX5_gatherHops_20 (fun y48 => ?_)
      refine T_astore_n (pc := 21) (L' := [(3, .ref (ad (r1 + 23 + 2 * x2.toNat))), (0, .ref (ad r0)), (1, .ref (ad r1)), (2, vi x2)]) C dX5_gatherHops_21 rfl (Nat.le_of_ble_eq_true rfl) rfl ?_
      refine T_aload_n (pc := 22) C dX5_gatherHops_22 rfl 0 rfl ?_
      refine T_czVip (pc := 23) zk.1 hZ C [] [] (fun o h9 hw => ct_X7_isRunning zk s0 (r1 + 23 + 2 * x2.toNat) y48 hw o h9) kc_215 cm_X7_isRunning (rcc y48 (by decide) (fun _ => rfl) rfl) rfl rfl (Nat.le_of_ble_eq_true rfl) (by decide) (a' := 0) (b' := 0) ⟨rfl, rfl⟩ dX5_gatherHops_23 (fun v49 hv49 => ?_)
      refine T_if_eq (pc := 26) C 36 dX5_gatherHops_26 rfl hv49.1 (fun c50 => ?_) (fun c50 => ?_)
      · refine T_iconst (pc := 36) C dX5_gatherHops_36 ?_
        refine T_istore (pc := 37) (L' := [(4, vi 0), (3, .ref (ad (r1 + 23 + 2 * x2.toNat))), (0, .ref (ad r0)), (1, .ref (ad r1)), (2, vi x2)]) C dX5_gatherHops_37 (Nat.le_of_ble_eq_true rfl) rfl ?_
        refine T_iconst (pc := 39) C dX5_gatherHops_39 ?_
        refine T_istore (pc := 40) (L' := [(5, vi 0), (4, vi 0), (3, .ref (ad (r1 + 23 + 2 * x2.toNat))), (0, .ref (ad r0)), (1, .ref (ad r1)), (2, vi x2)]) C dX5_gatherHops_40 (Nat.le_of_ble_eq_true rfl) rfl ?_
        refine T_sub (L' := [(0, .ref (ad r0)), (1, .ref (ad r1)), (2, vi x2), (3, .ref (ad (r1 + 23 + 2 * x2.toNat))), (4, vi 0), (5, vi 0)]) [3, 4, 5, 2, 1, 0] rfl ?_
        refine T_loopE (lp_X5_gatherHops_42 zk hZ C r0 r1 (r1 + 23 + 2 * x2.toNat) k0 k1 y48 x2 0 h2 (rngL rfl) N s0 0 (rngL rfl)) (fun q87 hq87 => ?_)
        refine T_iinc (pc := 119) (L' := [(2, vi (x2 + 1)), (0, .ref (ad r0)), (1, .ref (ad r1))]) C dX5_gatherHops_119 (Nat.le_of_ble_eq_true rfl) 2 rfl rfl ?_
        refine T_goto (pc := 122) C 7 dX5_gatherHops_122 rfl ?_
        refine T_sub (L' := [(0, .ref (ad r0)), (1, .ref (ad r1)), (2, vi (x2 + 1))]) [1, 2, 0] rfl ?_
        exact ih q87 (x2 + 1) (rng_inc c46 h2 z45.1)
      · refine T_aload_n (pc := 29) C dX5_gatherHops_29 rfl 0 rfl ?_
        refine Tc_geti (pc := 30) C (r1 + 23 + 2 * x2.toNat) 7 6 8 y48 (by decide) (fun _ => rfl) rfl inX7 (by decide) rfl kc_221 dX5_gatherHops_30 (fun z88 => ?_)
        refine T_goto (pc := 33) C 37 dX5_gatherHops_33 rfl ?_
        refine T_blV z88.1 (fun v89 hv89 => ?_)
        refine T_istore (pc := 37) (L' := [(4, vi v89), (3, .ref (ad (r1 + 23 + 2 * x2.toNat))), (0, .ref (ad r0)), (1, .ref (ad r1)), (2, vi x2)]) C dX5_gatherHops_37 (Nat.le_of_ble_eq_true rfl) rfl ?_
        refine T_iconst (pc := 39) C dX5_gatherHops_39 ?_
        refine T_istore (pc := 40) (L' := [(5, vi 0), (4, vi v89), (3, .ref (ad (r1 + 23 + 2 * x2.toNat))), (0, .ref (ad r0)), (1, .ref (ad r1)), (2, vi x2)]) C dX5_gatherHops_40 (Nat.le_of_ble_eq_true rfl) rfl ?_
        refine T_sub (L' := [(0, .ref (ad r0)), (1, .ref (ad r1)), (2, vi x2), (3, .ref (ad (r1 + 23 + 2 * x2.toNat))), (4, vi v89), (5, vi 0)]) [3, 4, 5, 2, 1, 0] rfl ?_
        refine T_loopE (lp_X5_gatherHops_42 zk hZ C r0 r1 (r1 + 23 + 2 * x2.toNat) k0 k1 y48 x2 v89 h2 hv89 N s0 0 (rngL rfl)) (fun q90 hq90 => ?_)
        refine T_iinc (pc := 119) (L' := [(2, vi (x2 + 1)), (0, .ref (ad r0)), (1, .ref (ad r1))]) C dX5_gatherHops_119 (Nat.le_of_ble_eq_true rfl) 2 rfl rfl ?_
        refine T_goto (pc := 122) C 7 dX5_gatherHops_122 rfl ?_
        refine T_sub (L' := [(0, .ref (ad r0)), (1, .ref (ad r1)), (2, vi (x2 + 1))]) [1, 2, 0] rfl ?_
        exact ih q90 (x2 + 1) (rng_inc c46 h2 z45.1)
def f_X5_gatherHops (N : Nat) (σ : Sm) (r0 : Nat) (r1 : Nat) : Option Sm :=
  bl (upm σ r0 3 0) fun s1 => (f_X5_gatherHops_7 N r0 r1 N s1 0).bind fun q91 => some q91
theorem ct_X5_gatherHops {l : Launch} {cy : Nat → ClassId} {ad : Nat → Nat} {E : Nat → Nat → Nat} {G : va_G} {Z : vZ} (zk : Zk Z E) (N : Nat) (σ : Sm) (r0 : Nat) (r1 : Nat) (k0 : kd r0 = 5) (k1 : kd r1 = 8) (hw : wfc σ) (o : Sm) (h : f_X5_gatherHops N σ r0 r1 = some o) : CzV Z l yX5_gatherHops cX5_gatherHops 6 rm_X5_gatherHops (wlc cy ad E) wfc G (tyc cy) [.ref (ad r0), .ref (ad r1)] σ o := by
  refine czV_of zk.1 (plainFor_of_name (by decide)) (Nat.le_of_ble_eq_true rfl) hw o o h (fun X Y w => EndV X Y cX5_gatherHops rm_X5_gatherHops w) (fun _ _ h => h) (fun X A Q hZ hX C => ?_)
  replace C : Cx X (Yc cy ad E G A 6 Q) cX5_gatherHops RX5 none rm_X5_gatherHops (tyc cy) := C
  replace hZ : Zx Z X (Yc cy ad E G A 6 Q) := hZ
  show T X (Yc cy ad E G A 6 Q) (fun w => EndV X (Yc cy ad E G A 6 Q) cX5_gatherHops rm_X5_gatherHops w) 0 0 0 [(0, .ref (ad r0)), (1, .ref (ad r1))] [] σ (f_X5_gatherHops N σ r0 r1)
  unfold f_X5_gatherHops
  refine T_aload_n (pc := 0) C dX5_gatherHops_0 rfl 0 rfl ?_
  refine T_iconst (pc := 1) C dX5_gatherHops_1 ?_
  refine Tc_put (pc := 2) C (ty := .int) r0 5 3 7 k0 (by decide) (fun _ => rfl) rfl inX5 (by decide) (fun _ => rfl) (rngL rfl) tyX5 tyX5_ok nmX5 rfl (Nat.le_of_ble_eq_true rfl) kc_212 rfl (nar_I _) (fit_I _) dX5_gatherHops_2 ?_
  refine T_blS (fun s1 => ?_)
  refine T_iconst (pc := 5) C dX5_gatherHops_5 ?_
  refine T_istore_n (pc := 6) (L' := [(2, vi 0), (0, .ref (ad r0)), (1, .ref (ad r1))]) C dX5_gatherHops_6 rfl (Nat.le_of_ble_eq_true rfl) rfl ?_
  refine T_sub (L' := [(0, .ref (ad r0)), (1, .ref (ad r1)), (2, vi 0)]) [1, 2, 0] rfl ?_
  refine T_loopE (lp_X5_gatherHops_7 zk hZ C N r0 r1 k0 k1 N s1 0 (rngL rfl)) (fun q91 hq91 => ?_)
  exact T_vret (pc := 125) q91 (fun h9 => h9) (by decide) dX5_gatherHops_125

abbrev rm_X5_greatest : Room := ⟨2, 0, 0, 51⟩
theorem cm_X5_greatest : cmV yX5_greatest cX5_greatest 6 (some .int) 3 := ⟨kc_16, kc_205, ⟨by decide +kernel, by decide +kernel, by decide +kernel⟩, kc_228, kc_229⟩
def f_X5_greatest_16 (r0 : Nat) (r1 : Nat) (x2 : Int) (x3 : Int) : Nat → Sm → Int → Option (Sm)
  | 0, _, _ => none
  | n + 1, s0, x4 => (if (s0 r0 3) ≤ x4 then some s0 else if 0 ≤ x4 ∧ x4 < 30 then if 0 ≤ (((s0 (r0 + 4) x4.toNat) * 10) + (s0 (r0 + 5) x4.toNat)) ∧ (((s0 (r0 + 4) x4.toNat) * 10) + (s0 (r0 + 5) x4.toNat)) < 100 then if rng ((s0 (r0 + 1) (((s0 (r0 + 4) x4.toNat) * 10) + (s0 (r0 + 5) x4.toNat)).toNat) + (s0 (r0 + 6) x4.toNat)) then bl (upm s0 (r0 + 1) (((s0 (r0 + 4) x4.toNat) * 10) + (s0 (r0 + 5) x4.toNat)).toNat ((s0 (r0 + 1) (((s0 (r0 + 4) x4.toNat) * 10) + (s0 (r0 + 5) x4.toNat)).toNat) + (s0 (r0 + 6) x4.toNat))) fun s22 => f_X5_greatest_16 r0 r1 x2 x3 n s22 (x4 + 1) else none else none else none)
theorem lp_X5_greatest_16 {X : vjX} {A : Nat → Prop} {Q : State → Prop} {cy : Nat → ClassId} {ad : Nat → Nat} {E : Nat → Nat → Nat} {G : va_G} {Z : vZ} (zk : Zk Z E) (hZ : Zx Z X (Yc cy ad E G A 6 Q)) (C : Cx X (Yc cy ad E G A 6 Q) cX5_greatest RX5 (some .int) rm_X5_greatest (tyc cy)) (r0 : Nat) (r1 : Nat) (k0 : kd r0 = 5) (k1 : kd r1 = 8) (x2 : Int) (x3 : Int) (h2 : rng x2) (h3 : rng x3) : ∀ (n : Nat) (s0 : Sm) (x4 : Int) (h4 : rng x4), T X (Yc cy ad E G A 6 Q) (fun (q : Sm) => True → J X (Yc cy ad E G A 6 Q) 0 0 64 [(0, .ref (ad r0)), (1, .ref (ad r1)), (2, vi x2), (3, vi x3)] [] q) 0 0 16 [(0, .ref (ad r0)), (1, .ref (ad r1)), (2, vi x2), (3, vi x3), (4, vi x4)] [] s0 (f_X5_greatest_16 r0 r1 x2 x3 n s0 x4) := by
  intro n
  induction n with
  | zero => intro s0 x4 h4; exact T_none
  | succ n ih =>
    intro s0 x4 h4
    rw [f_X5_greatest_16]
    refine T_iload (pc := 16) C dX5_greatest_16 4 rfl ?_
    refine T_aload_n (pc := 18) C dX5_greatest_18 rfl 0 rfl ?_
    refine Tc_geti (pc := 19) C r0 5 3 7 k0 (by decide) (fun _ => rfl) rfl inX5 (by decide) rfl kc_212 dX5_greatest_19 (fun z13 => ?_)
    refine T_icmp_ge (pc := 22) C 64 dX5_greatest_22 rfl h4 z13 (fun c14 => ?_) (fun c14 => ?_)
    · refine T_sub (L' := [(0, .ref (ad r0)), (1, .ref (ad r1)), (2, vi x2), (3, vi x3)]) [0, 1, 2, 3] rfl ?_
      exact T_exit (fun h9 => h9 trivial)
    · refine T_aload_n (pc := 25) C dX5_greatest_25 rfl 0 rfl ?_
      refine Tc_getr (pc := 26) C r0 5 0 7 k0 (by decide) (fun _ => rfl) rfl inX5 (by decide) (v := .ref (ad (r0 + 1))) rfl kc_202 dX5_greatest_26 ?_
      refine T_aload_n (pc := 29) C dX5_greatest_29 rfl 0 rfl ?_
      refine Tc_getr (pc := 30) C r0 5 4 7 k0 (by decide) (fun _ => rfl) rfl inX5 (by decide) (v := .ref (ad (r0 + 4))) rfl kc_216 dX5_greatest_30 ?_
      refine T_iload (pc := 33) C dX5_greatest_33 4 rfl ?_
      refine T_guard (fun g15 => ?_)
      refine Tc_iald (pc := 35) C (r0 + 4) 23 30 x4.toNat (kd_5 k0).2.2.2.1 ⟨by decide, by decide⟩ rfl g15 rfl dX5_greatest_35 (fun z16 => ?_)
      refine T_bipush (pc := 36) C dX5_greatest_36 (by decide) ?_
      refine T_imul (pc := 38) C dX5_greatest_38 ?_
      refine T_aload_n (pc := 39) C dX5_greatest_39 rfl 0 rfl ?_
      refine Tc_getr (pc := 40) C r0 5 5 7 k0 (by decide) (fun _ => rfl) rfl inX5 (by decide) (v := .ref (ad (r0 + 5))) rfl kc_218 dX5_greatest_40 ?_
      refine T_iload (pc := 43) C dX5_greatest_43 4 rfl ?_
      refine Tc_iald (pc := 45) C (r0 + 5) 23 30 x4.toNat (kd_5 k0).2.2.2.2.1 ⟨by decide, by decide⟩ rfl g15 rfl dX5_greatest_45 (fun z17 => ?_)
      refine T_iadd (pc := 46) C dX5_greatest_46 ?_
      refine T_dup2 (pc := 47) C dX5_greatest_47 rfl rfl ?_
      refine T_guard (fun g18 => ?_)
      refine Tc_iald (pc := 48) C (r0 + 1) 21 100 (((s0 (r0 + 4) x4.toNat) * 10) + (s0 (r0 + 5) x4.toNat)).toNat (kd_5 k0).1 ⟨by decide, by decide⟩ rfl g18 rfl dX5_greatest_48 (fun z19 => ?_)
      refine T_aload_n (pc := 49) C dX5_greatest_49 rfl 0 rfl ?_
      refine Tc_getr (pc := 50) C r0 5 6 7 k0 (by decide) (fun _ => rfl) rfl inX5 (by decide) (v := .ref (ad (r0 + 6))) rfl kc_219 dX5_greatest_50 ?_
      refine T_iload (pc := 53) C dX5_greatest_53 4 rfl ?_
      refine Tc_iald (pc := 55) C (r0 + 6) 23 30 x4.toNat (kd_5 k0).2.2.2.2.2 ⟨by decide, by decide⟩ rfl g15 rfl dX5_greatest_55 (fun z20 => ?_)
      refine T_iadd (pc := 56) C dX5_greatest_56 ?_
      refine T_guard (fun g21 => ?_)
      refine Tc_iast (pc := 57) C (r0 + 1) 21 100 (((s0 (r0 + 4) x4.toNat) * 10) + (s0 (r0 + 5) x4.toNat)).toNat (kd_5 k0).1 ⟨by decide, by decide⟩ rfl g18 rfl g21 dX5_greatest_57 ?_
      refine T_blS (fun s22 => ?_)
      refine T_iinc (pc := 58) (L' := [(4, vi (x4 + 1)), (0, .ref (ad r0)), (1, .ref (ad r1)), (2, vi x2), (3, vi x3)]) C dX5_greatest_58 (Nat.le_of_ble_eq_true rfl) 4 rfl rfl ?_
      refine T_goto (pc := 61) C 16 dX5_greatest_61 rfl ?_
      refine T_sub (L' := [(0, .ref (ad r0)), (1, .ref (ad r1)), (2, vi x2), (3, vi x3), (4, vi (x4 + 1))]) [1, 2, 3, 4, 0] rfl ?_
      exact ih s22 (x4 + 1) (rng_inc c14 h4 z13)
def f_X5_greatest_70 (N : Nat) (r0 : Nat) (r1 : Nat) (x2 : Int) (x3 : Int) : Nat → Sm → Int → Int → Option (Sm × Int)
  | 0, _, _, _ => none
  | n + 1, s0, x4, x5 => (if 1000 ≤ x5 then some (s0, x4) else (f_X5_findWay N s0 r0 (s0 r1 2) x2 x3).bind fun v40 => (if v40.2 = 0 then some (v40.1, x4) else (f_X5_addTravellers N v40.1 r0 x2 x3).bind fun v42 => bl (x4 + v42.2) fun v43 => if rng v43 then f_X5_greatest_70 N r0 r1 x2 x3 n v42.1 v43 (x5 + 1) else none))
theorem lp_X5_greatest_70 {X : vjX} {A : Nat → Prop} {Q : State → Prop} {cy : Nat → ClassId} {ad : Nat → Nat} {E : Nat → Nat → Nat} {G : va_G} {Z : vZ} (zk : Zk Z E) (hZ : Zx Z X (Yc cy ad E G A 6 Q)) (C : Cx X (Yc cy ad E G A 6 Q) cX5_greatest RX5 (some .int) rm_X5_greatest (tyc cy)) (N : Nat) (r0 : Nat) (r1 : Nat) (k0 : kd r0 = 5) (k1 : kd r1 = 8) (x2 : Int) (x3 : Int) (h2 : rng x2) (h3 : rng x3) : ∀ (n : Nat) (s0 : Sm) (x4 : Int) (x5 : Int) (h4 : rng x4) (h5 : rng x5), T X (Yc cy ad E G A 6 Q) (fun (q : Sm × Int) => rng q.2 → J X (Yc cy ad E G A 6 Q) 0 0 108 [(4, vi q.2)] [] q.1) 0 0 70 [(0, .ref (ad r0)), (1, .ref (ad r1)), (2, vi x2), (3, vi x3), (4, vi x4), (5, vi x5)] [] s0 (f_X5_greatest_70 N r0 r1 x2 x3 n s0 x4 x5) := by
  intro n
  induction n with
  | zero => intro s0 x4 x5 h4 h5; exact T_none
  | succ n ih =>
    intro s0 x4 x5 h4 h5
    rw [f_X5_greatest_70]
    refine T_iload (pc := 70) C dX5_greatest_70 5 rfl ?_
    refine T_sipush (pc := 72) C dX5_greatest_72 (by decide) ?_
    refine T_icmp_ge (pc := 75) C 108 dX5_greatest_75 rfl h5 (rngL rfl) (fun c38 => ?_) (fun c38 => ?_)
    · refine T_sub (L' := [(4, vi x4)]) [4] rfl ?_
      exact T_exit (fun h9 => h9 h4)
    · refine T_aload_n (pc := 78) C dX5_greatest_78 rfl 0 rfl ?_
      refine T_aload_n (pc := 79) C dX5_greatest_79 rfl 1 rfl ?_
      refine Tc_geti (pc := 80) C r1 8 2 10 k1 (by decide) (fun _ => rfl) rfl inX8 (by decide) rfl kc_225 dX5_greatest_80 (fun z39 => ?_)
      refine T_iload_n (pc := 83) C dX5_greatest_83 rfl 2 rfl ?_
      refine T_iload_n (pc := 84) C dX5_greatest_84 rfl 3 rfl ?_
      refine T_czVi (pc := 85) zk.1 hZ C [vi (s0 r1 2), vi x2, vi x3] [] (fun o h9 hw => ct_X5_findWay zk N s0 r0 (s0 r1 2) x2 x3 k0 z39.1 h2 h3 hw o h9) kc_226 cm_X5_findWay (rcc k0 (by decide) (fun _ => rfl) rfl) rfl rfl (Nat.le_of_ble_eq_true rfl) (by decide) (a' := 0) (b' := 0) ⟨rfl, rfl⟩ dX5_greatest_85 (fun v40 hv40 => ?_)
      refine T_if_eq (pc := 88) C 108 dX5_greatest_88 rfl hv40.1 (fun c41 => ?_) (fun c41 => ?_)
      · refine T_sub (L' := [(4, vi x4)]) [4] rfl ?_
        exact T_exit (fun h9 => h9 h4)
      · refine T_iload (pc := 91) C dX5_greatest_91 4 rfl ?_
        refine T_aload_n (pc := 93) C dX5_greatest_93 rfl 0 rfl ?_
        refine T_iload_n (pc := 94) C dX5_greatest_94 rfl 2 rfl ?_
        refine T_iload_n (pc := 95) C dX5_greatest_95 rfl 3 rfl ?_
        refine T_czVi (pc := 96) zk.1 hZ C [vi x2, vi x3] [vi x4] (fun o h9 hw => ct_X5_addTravellers zk N v40.1 r0 x2 x3 k0 h2 h3 hw o h9) kc_227 cm_X5_addTravellers (rcc k0 (by decide) (fun _ => rfl) rfl) rfl rfl (Nat.le_of_ble_eq_true rfl) (by decide) (a' := 0) (b' := 0) ⟨rfl, rfl⟩ dX5_greatest_96 (fun v42 hv42 => ?_)
        refine T_iadd (pc := 99) C dX5_greatest_99 ?_
        refine T_blN (fun v43 => ?_)
        refine T_istore (pc := 100) (L' := [(4, vi v43), (0, .ref (ad r0)), (1, .ref (ad r1)), (2, vi x2), (3, vi x3), (5, vi x5)]) C dX5_greatest_100 (Nat.le_of_ble_eq_true rfl) rfl ?_
        refine T_iinc (pc := 102) (L' := [(5, vi (x5 + 1)), (4, vi v43), (0, .ref (ad r0)), (1, .ref (ad r1)), (2, vi x2), (3, vi x3)]) C dX5_greatest_102 (Nat.le_of_ble_eq_true rfl) 5 rfl rfl ?_
        refine T_goto (pc := 105) C 70 dX5_greatest_105 rfl ?_
        refine T_sub (L' := [(0, .ref (ad r0)), (1, .ref (ad r1)), (2, vi x2), (3, vi x3), (4, vi v43), (5, vi (x5 + 1))]) [2, 3, 4, 5, 1, 0] rfl ?_
        refine T_guard (fun g44 => ?_)
        exact ih v42.1 v43 (x5 + 1) g44 (rng_inc c38 h5 (rngL rfl))
def f_X5_greatest (N : Nat) (σ : Sm) (r0 : Nat) (r1 : Nat) (x2 : Int) (x3 : Int) : Option (Sm × Int) :=
  (f_X5_gatherHops N σ r0 r1).bind fun s1 => (f_J7_fill_53178 N s1 (r0 + 1) 21 0).bind fun s2 => (f_X5_greatest_16 r0 r1 x2 x3 N s2 0).bind fun q23 => (f_X5_greatest_70 N r0 r1 x2 x3 N q23 0 0).bind fun q45 => some (q45.1, q45.2)
theorem ct_X5_greatest {l : Launch} {cy : Nat → ClassId} {ad : Nat → Nat} {E : Nat → Nat → Nat} {G : va_G} {Z : vZ} (zk : Zk Z E) (N : Nat) (σ : Sm) (r0 : Nat) (r1 : Nat) (x2 : Int) (x3 : Int) (k0 : kd r0 = 5) (k1 : kd r1 = 8) (h2 : rng x2) (h3 : rng x3) (hw : wfc σ) (o : Sm × Int) (h : f_X5_greatest N σ r0 r1 x2 x3 = some o) : CzI Z l yX5_greatest cX5_greatest 6 (some .int) rm_X5_greatest (wlc cy ad E) wfc G (tyc cy) [.ref (ad r0), .ref (ad r1), vi x2, vi x3] σ o.1 o.2 := by
  refine czI_of zk.1 (plainFor_of_name (by decide)) (Nat.le_of_ble_eq_true rfl) hw o o h (fun X Y w => EndI X Y cX5_greatest rm_X5_greatest .int w) (fun _ _ h => h) (fun X A Q hZ hX C => ?_)
  replace C : Cx X (Yc cy ad E G A 6 Q) cX5_greatest RX5 (some .int) rm_X5_greatest (tyc cy) := C
  replace hZ : Zx Z X (Yc cy ad E G A 6 Q) := hZ
  show T X (Yc cy ad E G A 6 Q) (fun w => EndI X (Yc cy ad E G A 6 Q) cX5_greatest rm_X5_greatest .int w) 0 0 0 [(0, .ref (ad r0)), (1, .ref (ad r1)), (2, vi x2), (3, vi x3)] [] σ (f_X5_greatest N σ r0 r1 x2 x3)
  unfold f_X5_greatest
  refine T_aload_n (pc := 0) C dX5_greatest_0 rfl 0 rfl ?_
  refine T_aload_n (pc := 1) C dX5_greatest_1 rfl 1 rfl ?_
  refine T_czVv (pc := 2) zk.1 hZ C [.ref (ad r1)] [] (fun o h9 hw => ct_X5_gatherHops zk N σ r0 r1 k0 k1 hw o h9) kc_224 cm_X5_gatherHops (rcc k0 (by decide) (fun _ => rfl) rfl) rfl rfl (Nat.le_of_ble_eq_true rfl) (by decide) (a' := 0) (b' := 0) ⟨rfl, rfl⟩ dX5_greatest_2 (fun s1 => ?_)
  refine T_aload_n (pc := 5) C dX5_greatest_5 rfl 0 rfl ?_
  refine Tc_getr (pc := 6) C r0 5 0 7 k0 (by decide) (fun _ => rfl) rfl inX5 (by decide) (v := .ref (ad (r0 + 1))) rfl kc_202 dX5_greatest_6 ?_
  refine T_iconst (pc := 9) C dX5_greatest_9 ?_
  refine T_czSv (pc := 10) zk.1 hZ C [.ref (ad (r0 + 1)), vi 0] [] (fun o h9 hw => ct_J7_fill_53178 zk N s1 (r0 + 1) 21 0 (kd_5 k0).1 ⟨by decide, by decide⟩ (rngL rfl) hw o h9) kc_208 cm_J7_fill_53178 rfl rfl (Nat.le_of_ble_eq_true rfl) (by decide) (a' := 0) (b' := 0) ⟨rfl, rfl⟩ dX5_greatest_10 (fun s2 => ?_)
  refine T_iconst (pc := 13) C dX5_greatest_13 ?_
  refine T_istore (pc := 14) (L' := [(4, vi 0), (0, .ref (ad r0)), (1, .ref (ad r1)), (2, vi x2), (3, vi x3)]) C dX5_greatest_14 (Nat.le_of_ble_eq_true rfl) rfl ?_
  refine T_sub (L' := [(0, .ref (ad r0)), (1, .ref (ad r1)), (2, vi x2), (3, vi x3), (4, vi 0)]) [1, 2, 3, 4, 0] rfl ?_
  refine T_loopE (lp_X5_greatest_16 zk hZ C r0 r1 k0 k1 x2 x3 h2 h3 N s2 0 (rngL rfl)) (fun q23 hq23 => ?_)
  refine T_iconst (pc := 64) C dX5_greatest_64 ?_
  refine T_istore (pc := 65) (L' := [(4, vi 0), (0, .ref (ad r0)), (1, .ref (ad r1)), (2, vi x2), (3, vi x3)]) C dX5_greatest_65 (Nat.le_of_ble_eq_true rfl) rfl ?_
  refine T_iconst (pc := 67) C dX5_greatest_67 ?_
  refine T_istore (pc := 68) (L' := [(5, vi 0), (4, vi 0), (0, .ref (ad r0)), (1, .ref (ad r1)), (2, vi x2), (3, vi x3)]) C dX5_greatest_68 (Nat.le_of_ble_eq_true rfl) rfl ?_
  refine T_sub (L' := [(0, .ref (ad r0)), (1, .ref (ad r1)), (2, vi x2), (3, vi x3), (4, vi 0), (5, vi 0)]) [2, 3, 4, 5, 1, 0] rfl ?_
  refine T_loopE (lp_X5_greatest_70 zk hZ C N r0 r1 k0 k1 x2 x3 h2 h3 N q23 0 0 (rngL rfl) (rngL rfl)) (fun q45 hq45 => ?_)
  refine T_iload (pc := 108) C dX5_greatest_108 0 rfl ?_
  exact T_iret (pc := 110) (q45.1, q45.2) (fun h9 => h9) hq45 (nar_I _) (by decide) dX5_greatest_110

abbrev rm_X5_seatsOut : Room := ⟨0, 0, 0, 0⟩
theorem cm_X5_seatsOut : cmV yX5_seatsOut cX5_seatsOut 4 (some .int) 1 := ⟨kc_19, kc_205, ⟨by decide +kernel, by decide +kernel, by decide +kernel⟩, kc_230, kc_231⟩
def f_X5_seatsOut_4 (σ : Sm) (r0 : Nat) (x1 : Int) : Nat → Int → Int → Option (Int)
  | 0, _, _ => none
  | n + 1, x2, x3 => (if (σ r0 3) ≤ x3 then some x2 else if 0 ≤ x3 ∧ x3 < 30 then if 0 ≤ (σ (r0 + 4) x3.toNat) ∧ (σ (r0 + 4) x3.toNat) < 32 then if 0 ≤ x1 then (if ((x1 / 2 ^ (σ (r0 + 4) x3.toNat).toNat) % 2) = 1 then if 0 ≤ (σ (r0 + 5) x3.toNat) ∧ (σ (r0 + 5) x3.toNat) < 32 then (if ((x1 / 2 ^ (σ (r0 + 5) x3.toNat).toNat) % 2) = 0 then bl (x2 + (σ (r0 + 6) x3.toNat)) fun v33 => if rng v33 then f_X5_seatsOut_4 σ r0 x1 n v33 (x3 + 1) else none else f_X5_seatsOut_4 σ r0 x1 n x2 (x3 + 1)) else none else f_X5_seatsOut_4 σ r0 x1 n x2 (x3 + 1)) else none else none else none)
theorem lp_X5_seatsOut_4 {X : vjX} {A : Nat → Prop} {Q : State → Prop} {cy : Nat → ClassId} {ad : Nat → Nat} {E : Nat → Nat → Nat} {G : va_G} {Z : vZ} (zk : Zk Z E) (hZ : Zx Z X (Yc cy ad E G A 4 Q)) (C : Cx X (Yc cy ad E G A 4 Q) cX5_seatsOut RX5 (some .int) rm_X5_seatsOut (tyc cy)) (σ : Sm) (r0 : Nat) (k0 : kd r0 = 5) (x1 : Int) (h1 : rng x1) : ∀ (n : Nat) (x2 : Int) (x3 : Int) (h2 : rng x2) (h3 : rng x3), T X (Yc cy ad E G A 4 Q) (fun (q : Int) => rng q → J X (Yc cy ad E G A 4 Q) 0 0 54 [(2, vi q)] [] σ) 0 0 4 [(0, .ref (ad r0)), (1, vi x1), (2, vi x2), (3, vi x3)] [] σ (f_X5_seatsOut_4 σ r0 x1 n x2 x3) := by
  intro n
  induction n with
  | zero => intro x2 x3 h2 h3; exact T_none
  | succ n ih =>
    intro x2 x3 h2 h3
    rw [f_X5_seatsOut_4]
    refine T_iload_n (pc := 4) C dX5_seatsOut_4 rfl 3 rfl ?_
    refine T_aload_n (pc := 5) C dX5_seatsOut_5 rfl 0 rfl ?_
    refine Tc_geti (pc := 6) C r0 5 3 7 k0 (by decide) (fun _ => rfl) rfl inX5 (by decide) rfl kc_212 dX5_seatsOut_6 (fun z22 => ?_)
    refine T_icmp_ge (pc := 9) C 54 dX5_seatsOut_9 rfl h3 z22 (fun c23 => ?_) (fun c23 => ?_)
    · refine T_sub (L' := [(2, vi x2)]) [2] rfl ?_
      exact T_exit (fun h9 => h9 h2)
    · refine T_iload_n (pc := 12) C dX5_seatsOut_12 rfl 1 rfl ?_
      refine T_aload_n (pc := 13) C dX5_seatsOut_13 rfl 0 rfl ?_
      refine Tc_getr (pc := 14) C r0 5 4 7 k0 (by decide) (fun _ => rfl) rfl inX5 (by decide) (v := .ref (ad (r0 + 4))) rfl kc_216 dX5_seatsOut_14 ?_
      refine T_iload_n (pc := 17) C dX5_seatsOut_17 rfl 3 rfl ?_
      refine T_guard (fun g24 => ?_)
      refine Tc_iald (pc := 18) C (r0 + 4) 23 30 x3.toNat (kd_5 k0).2.2.2.1 ⟨by decide, by decide⟩ rfl g24 rfl dX5_seatsOut_18 (fun z25 => ?_)
      refine T_guard (fun g26 => ?_)
      refine T_guard (fun g27 => ?_)
      refine T_ishr (pc := 19) C h1 g27 g26 dX5_seatsOut_19 ?_
      refine T_iconst (pc := 20) C dX5_seatsOut_20 ?_
      refine T_mask (pc := 21) C 1 2 (by decide) (by decide) (by decide) dX5_seatsOut_21 ?_
      refine T_iconst (pc := 22) C dX5_seatsOut_22 ?_
      refine T_icmp_ne (pc := 23) C 48 dX5_seatsOut_23 rfl (bit_rng (bit_mod _)) (rngL rfl) (fun c28 => ?_) (fun c28 => ?_)
      · refine T_iinc (pc := 48) (L' := [(3, vi (x3 + 1)), (0, .ref (ad r0)), (1, vi x1), (2, vi x2)]) C dX5_seatsOut_48 (Nat.le_of_ble_eq_true rfl) 3 rfl rfl ?_
        refine T_goto (pc := 51) C 4 dX5_seatsOut_51 rfl ?_
        refine T_sub (L' := [(0, .ref (ad r0)), (1, vi x1), (2, vi x2), (3, vi (x3 + 1))]) [1, 2, 3, 0] rfl ?_
        exact ih x2 (x3 + 1) h2 (rng_inc c23 h3 z22)
      · refine T_iload_n (pc := 26) C dX5_seatsOut_26 rfl 1 rfl ?_
        refine T_aload_n (pc := 27) C dX5_seatsOut_27 rfl 0 rfl ?_
        refine Tc_getr (pc := 28) C r0 5 5 7 k0 (by decide) (fun _ => rfl) rfl inX5 (by decide) (v := .ref (ad (r0 + 5))) rfl kc_218 dX5_seatsOut_28 ?_
        refine T_iload_n (pc := 31) C dX5_seatsOut_31 rfl 3 rfl ?_
        refine Tc_iald (pc := 32) C (r0 + 5) 23 30 x3.toNat (kd_5 k0).2.2.2.2.1 ⟨by decide, by decide⟩ rfl g24 rfl dX5_seatsOut_32 (fun z29 => ?_)
        refine T_guard (fun g30 => ?_)
        refine T_ishr (pc := 33) C h1 g27 g30 dX5_seatsOut_33 ?_
        refine T_iconst (pc := 34) C dX5_seatsOut_34 ?_
        refine T_mask (pc := 35) C 1 2 (by decide) (by decide) (by decide) dX5_seatsOut_35 ?_
        refine T_if_ne (pc := 36) C 48 dX5_seatsOut_36 rfl (bit_rng (bit_mod _)) (fun c31 => ?_) (fun c31 => ?_)
        · refine T_iinc (pc := 48) (L' := [(3, vi (x3 + 1)), (0, .ref (ad r0)), (1, vi x1), (2, vi x2)]) C dX5_seatsOut_48 (Nat.le_of_ble_eq_true rfl) 3 rfl rfl ?_
          refine T_goto (pc := 51) C 4 dX5_seatsOut_51 rfl ?_
          refine T_sub (L' := [(0, .ref (ad r0)), (1, vi x1), (2, vi x2), (3, vi (x3 + 1))]) [1, 2, 3, 0] rfl ?_
          exact ih x2 (x3 + 1) h2 (rng_inc c23 h3 z22)
        · refine T_iload_n (pc := 39) C dX5_seatsOut_39 rfl 2 rfl ?_
          refine T_aload_n (pc := 40) C dX5_seatsOut_40 rfl 0 rfl ?_
          refine Tc_getr (pc := 41) C r0 5 6 7 k0 (by decide) (fun _ => rfl) rfl inX5 (by decide) (v := .ref (ad (r0 + 6))) rfl kc_219 dX5_seatsOut_41 ?_
          refine T_iload_n (pc := 44) C dX5_seatsOut_44 rfl 3 rfl ?_
          refine Tc_iald (pc := 45) C (r0 + 6) 23 30 x3.toNat (kd_5 k0).2.2.2.2.2 ⟨by decide, by decide⟩ rfl g24 rfl dX5_seatsOut_45 (fun z32 => ?_)
          refine T_iadd (pc := 46) C dX5_seatsOut_46 ?_
          refine T_blN (fun v33 => ?_)
          refine T_istore_n (pc := 47) (L' := [(2, vi v33), (0, .ref (ad r0)), (1, vi x1), (3, vi x3)]) C dX5_seatsOut_47 rfl (Nat.le_of_ble_eq_true rfl) rfl ?_
          refine T_iinc (pc := 48) (L' := [(3, vi (x3 + 1)), (2, vi v33), (0, .ref (ad r0)), (1, vi x1)]) C dX5_seatsOut_48 (Nat.le_of_ble_eq_true rfl) 3 rfl rfl ?_
          refine T_goto (pc := 51) C 4 dX5_seatsOut_51 rfl ?_
          refine T_sub (L' := [(0, .ref (ad r0)), (1, vi x1), (2, vi v33), (3, vi (x3 + 1))]) [2, 3, 1, 0] rfl ?_
          refine T_guard (fun g34 => ?_)
          exact ih v33 (x3 + 1) g34 (rng_inc c23 h3 z22)
def f_X5_seatsOut (N : Nat) (σ : Sm) (r0 : Nat) (x1 : Int) : Option Int :=
  (f_X5_seatsOut_4 σ r0 x1 N 0 0).bind fun q35 => some q35
theorem ct_X5_seatsOut {l : Launch} {cy : Nat → ClassId} {ad : Nat → Nat} {E : Nat → Nat → Nat} {G : va_G} {Z : vZ} (zk : Zk Z E) (N : Nat) (σ : Sm) (r0 : Nat) (x1 : Int) (k0 : kd r0 = 5) (h1 : rng x1) (hw : wfc σ) (o : Int) (h : f_X5_seatsOut N σ r0 x1 = some o) : CzI Z l yX5_seatsOut cX5_seatsOut 4 (some .int) rm_X5_seatsOut (wlc cy ad E) wfc G (tyc cy) [.ref (ad r0), vi x1] σ σ o := by
  refine czI_of zk.1 (plainFor_of_name (by decide)) (Nat.le_of_ble_eq_true rfl) hw (σ, o) o h (fun X Y v => EndI X Y cX5_seatsOut rm_X5_seatsOut .int (σ, v)) (fun _ _ h => h) (fun X A Q hZ hX C => ?_)
  replace C : Cx X (Yc cy ad E G A 4 Q) cX5_seatsOut RX5 (some .int) rm_X5_seatsOut (tyc cy) := C
  replace hZ : Zx Z X (Yc cy ad E G A 4 Q) := hZ
  show T X (Yc cy ad E G A 4 Q) (fun v => EndI X (Yc cy ad E G A 4 Q) cX5_seatsOut rm_X5_seatsOut .int (σ, v)) 0 0 0 [(0, .ref (ad r0)), (1, vi x1)] [] σ (f_X5_seatsOut N σ r0 x1)
  unfold f_X5_seatsOut
  refine T_iconst (pc := 0) C dX5_seatsOut_0 ?_
  refine T_istore_n (pc := 1) (L' := [(2, vi 0), (0, .ref (ad r0)), (1, vi x1)]) C dX5_seatsOut_1 rfl (Nat.le_of_ble_eq_true rfl) rfl ?_
  refine T_iconst (pc := 2) C dX5_seatsOut_2 ?_
  refine T_istore_n (pc := 3) (L' := [(3, vi 0), (2, vi 0), (0, .ref (ad r0)), (1, vi x1)]) C dX5_seatsOut_3 rfl (Nat.le_of_ble_eq_true rfl) rfl ?_
  refine T_sub (L' := [(0, .ref (ad r0)), (1, vi x1), (2, vi 0), (3, vi 0)]) [2, 3, 1, 0] rfl ?_
  refine T_loopE (lp_X5_seatsOut_4 zk hZ C σ r0 k0 x1 h1 N 0 0 (rngL rfl) (rngL rfl)) (fun q35 hq35 => ?_)
  refine T_iload_n (pc := 54) C dX5_seatsOut_54 rfl 0 rfl ?_
  exact T_iret (pc := 55) q35 (fun h9 => h9) hq35 (nar_I _) (by decide) dX5_seatsOut_55

abbrev rm_X5_leastCut : Room := ⟨2, 0, 0, 46⟩
theorem cm_X5_leastCut : cmV yX5_leastCut cX5_leastCut 7 (some .int) 3 := ⟨kc_17, kc_205, ⟨by decide +kernel, by decide +kernel, by decide +kernel⟩, kc_233, kc_234⟩
def f_X5_leastCut_20 (N : Nat) (σ : Sm) (r0 : Nat) (x2 : Int) (x3 : Int) (x5 : Int) : Nat → Int → Int → Option (Int)
  | 0, _, _ => none
  | n + 1, x4, x6 => (if x5 ≤ x6 then some x4 else if 0 ≤ x2 ∧ x2 < 32 then if 0 ≤ x6 then (if ((x6 / 2 ^ x2.toNat) % 2) = 1 then if 0 ≤ x3 ∧ x3 < 32 then (if ((x6 / 2 ^ x3.toNat) % 2) = 0 then (f_X5_seatsOut N σ r0 x6).bind fun v15 => (f_J9_min_7cf53 x4 v15).bind fun v16 => f_X5_leastCut_20 N σ r0 x2 x3 x5 n v16 (x6 + 1) else f_X5_leastCut_20 N σ r0 x2 x3 x5 n x4 (x6 + 1)) else none else f_X5_leastCut_20 N σ r0 x2 x3 x5 n x4 (x6 + 1)) else none else none)
theorem lp_X5_leastCut_20 {X : vjX} {A : Nat → Prop} {Q : State → Prop} {cy : Nat → ClassId} {ad : Nat → Nat} {E : Nat → Nat → Nat} {G : va_G} {Z : vZ} (zk : Zk Z E) (hZ : Zx Z X (Yc cy ad E G A 7 Q)) (C : Cx X (Yc cy ad E G A 7 Q) cX5_leastCut RX5 (some .int) rm_X5_leastCut (tyc cy)) (N : Nat) (σ : Sm) (r0 : Nat) (k0 : kd r0 = 5) (x2 : Int) (x3 : Int) (x5 : Int) (h2 : rng x2) (h3 : rng x3) (h5 : rng x5) : ∀ (n : Nat) (x4 : Int) (x6 : Int) (h4 : rng x4) (h6 : rng x6), T X (Yc cy ad E G A 7 Q) (fun (q : Int) => rng q → J X (Yc cy ad E G A 7 Q) 0 0 65 [(4, vi q)] [] σ) 0 0 20 [(0, .ref (ad r0)), (2, vi x2), (3, vi x3), (4, vi x4), (5, vi x5), (6, vi x6)] [] σ (f_X5_leastCut_20 N σ r0 x2 x3 x5 n x4 x6) := by
  intro n
  induction n with
  | zero => intro x4 x6 h4 h6; exact T_none
  | succ n ih =>
    intro x4 x6 h4 h6
    rw [f_X5_leastCut_20]
    refine T_iload (pc := 20) C dX5_leastCut_20 5 rfl ?_
    refine T_iload (pc := 22) C dX5_leastCut_22 4 rfl ?_
    refine T_icmp_ge (pc := 24) C 65 dX5_leastCut_24 rfl h6 h5 (fun c9 => ?_) (fun c9 => ?_)
    · refine T_sub (L' := [(4, vi x4)]) [3] rfl ?_
      exact T_exit (fun h9 => h9 h4)
    · refine T_iload (pc := 27) C dX5_leastCut_27 5 rfl ?_
      refine T_iload_n (pc := 29) C dX5_leastCut_29 rfl 1 rfl ?_
      refine T_guard (fun g10 => ?_)
      refine T_guard (fun g11 => ?_)
      refine T_ishr (pc := 30) C h6 g11 g10 dX5_leastCut_30 ?_
      refine T_iconst (pc := 31) C dX5_leastCut_31 ?_
      refine T_mask (pc := 32) C 1 2 (by decide) (by decide) (by decide) dX5_leastCut_32 ?_
      refine T_iconst (pc := 33) C dX5_leastCut_33 ?_
      refine T_icmp_ne (pc := 34) C 59 dX5_leastCut_34 rfl (bit_rng (bit_mod _)) (rngL rfl) (fun c12 => ?_) (fun c12 => ?_)
      · refine T_iinc (pc := 59) (L' := [(6, vi (x6 + 1)), (0, .ref (ad r0)), (2, vi x2), (3, vi x3), (4, vi x4), (5, vi x5)]) C dX5_leastCut_59 (Nat.le_of_ble_eq_true rfl) 5 rfl rfl ?_
        refine T_goto (pc := 62) C 20 dX5_leastCut_62 rfl ?_
        refine T_sub (L' := [(0, .ref (ad r0)), (2, vi x2), (3, vi x3), (4, vi x4), (5, vi x5), (6, vi (x6 + 1))]) [1, 2, 3, 4, 5, 0] rfl ?_
        exact ih x4 (x6 + 1) h4 (rng_inc c9 h6 h5)
      · refine T_iload (pc := 37) C dX5_leastCut_37 5 rfl ?_
        refine T_iload_n (pc := 39) C dX5_leastCut_39 rfl 2 rfl ?_
        refine T_guard (fun g13 => ?_)
        refine T_ishr (pc := 40) C h6 g11 g13 dX5_leastCut_40 ?_
        refine T_iconst (pc := 41) C dX5_leastCut_41 ?_
        refine T_mask (pc := 42) C 1 2 (by decide) (by decide) (by decide) dX5_leastCut_42 ?_
        refine T_if_ne (pc := 43) C 59 dX5_leastCut_43 rfl (bit_rng (bit_mod _)) (fun c14 => ?_) (fun c14 => ?_)
        · refine T_iinc (pc := 59) (L' := [(6, vi (x6 + 1)), (0, .ref (ad r0)), (2, vi x2), (3, vi x3), (4, vi x4), (5, vi x5)]) C dX5_leastCut_59 (Nat.le_of_ble_eq_true rfl) 5 rfl rfl ?_
          refine T_goto (pc := 62) C 20 dX5_leastCut_62 rfl ?_
          refine T_sub (L' := [(0, .ref (ad r0)), (2, vi x2), (3, vi x3), (4, vi x4), (5, vi x5), (6, vi (x6 + 1))]) [1, 2, 3, 4, 5, 0] rfl ?_
          exact ih x4 (x6 + 1) h4 (rng_inc c9 h6 h5)
        · refine T_iload (pc := 46) C dX5_leastCut_46 3 rfl ?_
          refine T_aload_n (pc := 48) C dX5_leastCut_48 rfl 0 rfl ?_
          refine T_iload (pc := 49) C dX5_leastCut_49 5 rfl ?_
          refine T_czVip (pc := 51) zk.1 hZ C [vi x6] [vi x4] (fun o h9 hw => ct_X5_seatsOut zk N σ r0 x6 k0 h6 hw o h9) kc_232 cm_X5_seatsOut (rcc k0 (by decide) (fun _ => rfl) rfl) rfl rfl (Nat.le_of_ble_eq_true rfl) (by decide) (a' := 0) (b' := 0) ⟨rfl, rfl⟩ dX5_leastCut_51 (fun v15 hv15 => ?_)
          refine T_czSip (pc := 54) zk.1 hZ C [vi x4, vi v15] [] (fun o h9 hw => ct_J9_min_7cf53 zk σ x4 v15 h4 hv15.1 hw o h9) kc_204 cm_J9_min_7cf53 rfl rfl (Nat.le_of_ble_eq_true rfl) (by decide) (a' := 0) (b' := 0) ⟨rfl, rfl⟩ dX5_leastCut_54 (fun v16 hv16 => ?_)
          refine T_istore (pc := 57) (L' := [(4, vi v16), (0, .ref (ad r0)), (2, vi x2), (3, vi x3), (5, vi x5), (6, vi x6)]) C dX5_leastCut_57 (Nat.le_of_ble_eq_true rfl) rfl ?_
          refine T_iinc (pc := 59) (L' := [(6, vi (x6 + 1)), (4, vi v16), (0, .ref (ad r0)), (2, vi x2), (3, vi x3), (5, vi x5)]) C dX5_leastCut_59 (Nat.le_of_ble_eq_true rfl) 5 rfl rfl ?_
          refine T_goto (pc := 62) C 20 dX5_leastCut_62 rfl ?_
          refine T_sub (L' := [(0, .ref (ad r0)), (2, vi x2), (3, vi x3), (4, vi v16), (5, vi x5), (6, vi (x6 + 1))]) [2, 3, 4, 1, 5, 0] rfl ?_
          exact ih v16 (x6 + 1) hv16.1 (rng_inc c9 h6 h5)
def f_X5_leastCut (N : Nat) (σ : Sm) (r0 : Nat) (r1 : Nat) (x2 : Int) (x3 : Int) : Option (Sm × Int) :=
  (f_X5_gatherHops N σ r0 r1).bind fun s1 => if 0 ≤ (s1 r1 2) ∧ (s1 r1 2) < 32 then bl ((1 : Int) * 2 ^ (s1 r1 2).toNat) fun v4 => if rng v4 then (f_X5_leastCut_20 N s1 r0 x2 x3 v4 N 1000000000 0).bind fun q18 => some (s1, q18) else none else none
theorem ct_X5_leastCut {l : Launch} {cy : Nat → ClassId} {ad : Nat → Nat} {E : Nat → Nat → Nat} {G : va_G} {Z : vZ} (zk : Zk Z E) (N : Nat) (σ : Sm) (r0 : Nat) (r1 : Nat) (x2 : Int) (x3 : Int) (k0 : kd r0 = 5) (k1 : kd r1 = 8) (h2 : rng x2) (h3 : rng x3) (hw : wfc σ) (o : Sm × Int) (h : f_X5_leastCut N σ r0 r1 x2 x3 = some o) : CzI Z l yX5_leastCut cX5_leastCut 7 (some .int) rm_X5_leastCut (wlc cy ad E) wfc G (tyc cy) [.ref (ad r0), .ref (ad r1), vi x2, vi x3] σ o.1 o.2 := by
  refine czI_of zk.1 (plainFor_of_name (by decide)) (Nat.le_of_ble_eq_true rfl) hw o o h (fun X Y w => EndI X Y cX5_leastCut rm_X5_leastCut .int w) (fun _ _ h => h) (fun X A Q hZ hX C => ?_)
  replace C : Cx X (Yc cy ad E G A 7 Q) cX5_leastCut RX5 (some .int) rm_X5_leastCut (tyc cy) := C
  replace hZ : Zx Z X (Yc cy ad E G A 7 Q) := hZ
  show T X (Yc cy ad E G A 7 Q) (fun w => EndI X (Yc cy ad E G A 7 Q) cX5_leastCut rm_X5_leastCut .int w) 0 0 0 [(0, .ref (ad r0)), (1, .ref (ad r1)), (2, vi x2), (3, vi x3)] [] σ (f_X5_leastCut N σ r0 r1 x2 x3)
  unfold f_X5_leastCut
  refine T_aload_n (pc := 0) C dX5_leastCut_0 rfl 0 rfl ?_
  refine T_aload_n (pc := 1) C dX5_leastCut_1 rfl 1 rfl ?_
  refine T_czVv (pc := 2) zk.1 hZ C [.ref (ad r1)] [] (fun o h9 hw => ct_X5_gatherHops zk N σ r0 r1 k0 k1 hw o h9) kc_224 cm_X5_gatherHops (rcc k0 (by decide) (fun _ => rfl) rfl) rfl rfl (Nat.le_of_ble_eq_true rfl) (by decide) (a' := 0) (b' := 0) ⟨rfl, rfl⟩ dX5_leastCut_2 (fun s1 => ?_)
  refine T_ldc (pc := 5) C 1000000000 dX5_leastCut_5 kc_201 (by decide) ?_
  refine T_istore (pc := 7) (L' := [(4, vi 1000000000), (0, .ref (ad r0)), (1, .ref (ad r1)), (2, vi x2), (3, vi x3)]) C dX5_leastCut_7 (Nat.le_of_ble_eq_true rfl) rfl ?_
  refine T_iconst (pc := 9) C dX5_leastCut_9 ?_
  refine T_aload_n (pc := 10) C dX5_leastCut_10 rfl 2 rfl ?_
  refine Tc_geti (pc := 11) C r1 8 2 10 k1 (by decide) (fun _ => rfl) rfl inX8 (by decide) rfl kc_225 dX5_leastCut_11 (fun z2 => ?_)
  refine T_guard (fun g3 => ?_)
  refine T_ishl (pc := 14) C g3 dX5_leastCut_14 ?_
  refine T_blN (fun v4 => ?_)
  refine T_istore (pc := 15) (L' := [(5, vi v4), (4, vi 1000000000), (0, .ref (ad r0)), (1, .ref (ad r1)), (2, vi x2), (3, vi x3)]) C dX5_leastCut_15 (Nat.le_of_ble_eq_true rfl) rfl ?_
  refine T_iconst (pc := 17) C dX5_leastCut_17 ?_
  refine T_istore (pc := 18) (L' := [(6, vi 0), (5, vi v4), (4, vi 1000000000), (0, .ref (ad r0)), (1, .ref (ad r1)), (2, vi x2), (3, vi x3)]) C dX5_leastCut_18 (Nat.le_of_ble_eq_true rfl) rfl ?_
  refine T_sub (L' := [(0, .ref (ad r0)), (2, vi x2), (3, vi x3), (4, vi 1000000000), (5, vi v4), (6, vi 0)]) [3, 5, 6, 2, 1, 0] rfl ?_
  refine T_guard (fun g17 => ?_)
  refine T_loopE (lp_X5_leastCut_20 zk hZ C N s1 r0 k0 x2 x3 v4 h2 h3 g17 N 1000000000 0 (rngL rfl) (rngL rfl)) (fun q18 hq18 => ?_)
  refine T_iload (pc := 65) C dX5_leastCut_65 0 rfl ?_
  exact T_iret (pc := 67) (s1, q18) (fun h9 => h9) hq18 (nar_I _) (by decide) dX5_leastCut_67

abbrev rm_X10_copyFrom : Room := ⟨0, 0, 0, 0⟩
theorem cm_X10_copyFrom : cmV yX10_copyFrom cX10_copyFrom 2 none 1 := ⟨kc_80, kc_241, ⟨by decide +kernel, by decide +kernel, by decide +kernel⟩, kc_242, kc_243⟩
def f_X10_copyFrom (σ : Sm) (r0 : Nat) (r1 : Nat) : Option Sm :=
  bl (upm σ r0 0 (σ r1 0)) fun s2 => bl (upm s2 r0 1 (s2 r1 1)) fun s4 => bl (upm s4 r0 2 (s4 r1 2)) fun s6 => bl (upm s6 r0 3 (s6 r1 3)) fun s8 => bl (upm s8 r0 4 (s8 r1 4)) fun s10 => bl (upm s10 r0 5 (s10 r1 5)) fun s12 => some s12
theorem ct_X10_copyFrom {l : Launch} {cy : Nat → ClassId} {ad : Nat → Nat} {E : Nat → Nat → Nat} {G : va_G} {Z : vZ} (zk : Zk Z E) (σ : Sm) (r0 : Nat) (r1 : Nat) (k0 : kd r0 = 10) (k1 : kd r1 = 10) (hw : wfc σ) (o : Sm) (h : f_X10_copyFrom σ r0 r1 = some o) : CzV Z l yX10_copyFrom cX10_copyFrom 2 rm_X10_copyFrom (wlc cy ad E) wfc G (tyc cy) [.ref (ad r0), .ref (ad r1)] σ o := by
  refine czV_of zk.1 (plainFor_of_name (by decide)) (Nat.le_of_ble_eq_true rfl) hw o o h (fun X Y w => EndV X Y cX10_copyFrom rm_X10_copyFrom w) (fun _ _ h => h) (fun X A Q hZ hX C => ?_)
  replace C : Cx X (Yc cy ad E G A 2 Q) cX10_copyFrom RX10 none rm_X10_copyFrom (tyc cy) := C
  replace hZ : Zx Z X (Yc cy ad E G A 2 Q) := hZ
  show T X (Yc cy ad E G A 2 Q) (fun w => EndV X (Yc cy ad E G A 2 Q) cX10_copyFrom rm_X10_copyFrom w) 0 0 0 [(0, .ref (ad r0)), (1, .ref (ad r1))] [] σ (f_X10_copyFrom σ r0 r1)
  unfold f_X10_copyFrom
  refine T_aload_n (pc := 0) C dX10_copyFrom_0 rfl 0 rfl ?_
  refine T_aload_n (pc := 1) C dX10_copyFrom_1 rfl 1 rfl ?_
  refine Tc_geti (pc := 2) C r1 10 0 6 k1 (by decide) (fun _ => rfl) rfl inX10 (by decide) rfl kc_235 dX10_copyFrom_2 (fun z1 => ?_)
  refine Tc_put (pc := 5) C (ty := .int) r0 10 0 6 k0 (by decide) (fun _ => rfl) rfl inX10 (by decide) (fun _ => rfl) z1 tyX10 tyX10_ok nmX10 rfl (Nat.le_of_ble_eq_true rfl) kc_235 rfl (nar_I _) (fit_I _) dX10_copyFrom_5 ?_
  refine T_blS (fun s2 => ?_)
  refine T_aload_n (pc := 8) C dX10_copyFrom_8 rfl 0 rfl ?_
  refine T_aload_n (pc := 9) C dX10_copyFrom_9 rfl 1 rfl ?_
  refine Tc_geti (pc := 10) C r1 10 1 6 k1 (by decide) (fun _ => rfl) rfl inX10 (by decide) rfl kc_236 dX10_copyFrom_10 (fun z3 => ?_)
  refine Tc_put (pc := 13) C (ty := .int) r0 10 1 6 k0 (by decide) (fun _ => rfl) rfl inX10 (by decide) (fun _ => rfl) z3 tyX10 tyX10_ok nmX10 rfl (Nat.le_of_ble_eq_true rfl) kc_236 rfl (nar_I _) (fit_I _) dX10_copyFrom_13 ?_
  refine T_blS (fun s4 => ?_)
  refine T_aload_n (pc := 16) C dX10_copyFrom_16 rfl 0 rfl ?_
  refine T_aload_n (pc := 17) C dX10_copyFrom_17 rfl 1 rfl ?_
  refine Tc_geti (pc := 18) C r1 10 2 6 k1 (by decide) (fun _ => rfl) rfl inX10 (by decide) rfl kc_237 dX10_copyFrom_18 (fun z5 => ?_)
  refine Tc_put (pc := 21) C (ty := .int) r0 10 2 6 k0 (by decide) (fun _ => rfl) rfl inX10 (by decide) (fun _ => rfl) z5 tyX10 tyX10_ok nmX10 rfl (Nat.le_of_ble_eq_true rfl) kc_237 rfl (nar_I _) (fit_I _) dX10_copyFrom_21 ?_
  refine T_blS (fun s6 => ?_)
  refine T_aload_n (pc := 24) C dX10_copyFrom_24 rfl 0 rfl ?_
  refine T_aload_n (pc := 25) C dX10_copyFrom_25 rfl 1 rfl ?_
  refine Tc_geti (pc := 26) C r1 10 3 6 k1 (by decide) (fun _ => rfl) rfl inX10 (by decide) rfl kc_238 dX10_copyFrom_26 (fun z7 => ?_)
  refine Tc_put (pc := 29) C (ty := .int) r0 10 3 6 k0 (by decide) (fun _ => rfl) rfl inX10 (by decide) (fun _ => rfl) z7 tyX10 tyX10_ok nmX10 rfl (Nat.le_of_ble_eq_true rfl) kc_238 rfl (nar_I _) (fit_I _) dX10_copyFrom_29 ?_
  refine T_blS (fun s8 => ?_)
  refine T_aload_n (pc := 32) C dX10_copyFrom_32 rfl 0 rfl ?_
  refine T_aload_n (pc := 33) C dX10_copyFrom_33 rfl 1 rfl ?_
  refine Tc_geti (pc := 34) C r1 10 4 6 k1 (by decide) (fun _ => rfl) rfl inX10 (by decide) rfl kc_239 dX10_copyFrom_34 (fun z9 => ?_)
  refine Tc_put (pc := 37) C (ty := .int) r0 10 4 6 k0 (by decide) (fun _ => rfl) rfl inX10 (by decide) (fun _ => rfl) z9 tyX10 tyX10_ok nmX10 rfl (Nat.le_of_ble_eq_true rfl) kc_239 rfl (nar_I _) (fit_I _) dX10_copyFrom_37 ?_
  refine T_blS (fun s10 => ?_)
  refine T_aload_n (pc := 40) C dX10_copyFrom_40 rfl 0 rfl ?_
  refine T_aload_n (pc := 41) C dX10_copyFrom_41 rfl 1 rfl ?_
  refine Tc_geti (pc := 42) C r1 10 5 6 k1 (by decide) (fun _ => rfl) rfl inX10 (by decide) rfl kc_240 dX10_copyFrom_42 (fun z11 => ?_)
  refine Tc_put (pc := 45) C (ty := .int) r0 10 5 6 k0 (by decide) (fun _ => rfl) rfl inX10 (by decide) (fun _ => rfl) z11 tyX10 tyX10_ok nmX10 rfl (Nat.le_of_ble_eq_true rfl) kc_240 rfl (nar_I _) (fit_I _) dX10_copyFrom_45 ?_
  refine T_blS (fun s12 => ?_)
  exact T_vret (pc := 48) s12 (fun h9 => h9) (by decide) dX10_copyFrom_48

abbrev rm_X11_copyFrom : Room := ⟨1, 0, 0, 21⟩
theorem cm_X11_copyFrom : cmV yX11_copyFrom cX11_copyFrom 3 none 1 := ⟨kc_82, kc_251, ⟨by decide +kernel, by decide +kernel, by decide +kernel⟩, kc_252, kc_253⟩
def f_X11_copyFrom_42 (r0 : Nat) (r1 : Nat) : Nat → Sm → Int → Option (Sm)
  | 0, _, _ => none
  | n + 1, s0, x2 => (if (s0 r0 1) ≤ x2 then some s0 else if 0 ≤ x2 ∧ x2 < 16 then (f_X10_copyFrom s0 (s0 (r0 + 1) x2.toNat).toNat (s0 (r1 + 1) x2.toNat).toNat).bind fun s22 => f_X11_copyFrom_42 r0 r1 n s22 (x2 + 1) else none)
theorem lp_X11_copyFrom_42 {X : vjX} {A : Nat → Prop} {Q : State → Prop} {cy : Nat → ClassId} {ad : Nat → Nat} {E : Nat → Nat → Nat} {G : va_G} {Z : vZ} (zk : Zk Z E) (hZ : Zx Z X (Yc cy ad E G A 3 Q)) (C : Cx X (Yc cy ad E G A 3 Q) cX11_copyFrom RX11 none rm_X11_copyFrom (tyc cy)) (r0 : Nat) (r1 : Nat) (k0 : kd r0 = 11) (k1 : kd r1 = 11) : ∀ (n : Nat) (s0 : Sm) (x2 : Int) (h2 : rng x2), T X (Yc cy ad E G A 3 Q) (fun (q : Sm) => True → J X (Yc cy ad E G A 3 Q) 0 0 71 [] [] q) 0 0 42 [(0, .ref (ad r0)), (1, .ref (ad r1)), (2, vi x2)] [] s0 (f_X11_copyFrom_42 r0 r1 n s0 x2) := by
  intro n
  induction n with
  | zero => intro s0 x2 h2; exact T_none
  | succ n ih =>
    intro s0 x2 h2
    rw [f_X11_copyFrom_42]
    refine T_iload_n (pc := 42) C dX11_copyFrom_42 rfl 2 rfl ?_
    refine T_aload_n (pc := 43) C dX11_copyFrom_43 rfl 0 rfl ?_
    refine Tc_geti (pc := 44) C r0 11 1 6 k0 (by decide) (fun _ => rfl) rfl inX11 (by decide) rfl kc_244 dX11_copyFrom_44 (fun z17 => ?_)
    refine T_icmp_ge (pc := 47) C 71 dX11_copyFrom_47 rfl h2 z17 (fun c18 => ?_) (fun c18 => ?_)
    · refine T_sub (L' := []) [] rfl ?_
      exact T_exit (fun h9 => h9 trivial)
    · refine T_aload_n (pc := 50) C dX11_copyFrom_50 rfl 0 rfl ?_
      refine Tc_getr (pc := 51) C r0 11 0 6 k0 (by decide) (fun _ => rfl) rfl inX11 (by decide) (v := .ref (ad (r0 + 1))) rfl kc_249 dX11_copyFrom_51 ?_
      refine T_iload_n (pc := 54) C dX11_copyFrom_54 rfl 2 rfl ?_
      refine T_guard (fun g19 => ?_)
      refine Tc_ald28 (pc := 55) C (r0 + 1) x2.toNat (kd_11 k0) g19 rfl dX11_copyFrom_55 (fun y20 => ?_)
      refine T_aload_n (pc := 56) C dX11_copyFrom_56 rfl 1 rfl ?_
      refine Tc_getr (pc := 57) C r1 11 0 6 k1 (by decide) (fun _ => rfl) rfl inX11 (by decide) (v := .ref (ad (r1 + 1))) rfl kc_249 dX11_copyFrom_57 ?_
      refine T_iload_n (pc := 60) C dX11_copyFrom_60 rfl 2 rfl ?_
      refine Tc_ald28 (pc := 61) C (r1 + 1) x2.toNat (kd_11 k1) g19 rfl dX11_copyFrom_61 (fun y21 => ?_)
      refine T_czVv (pc := 62) zk.1 hZ C [.ref (ad (s0 (r1 + 1) x2.toNat).toNat)] [] (fun o h9 hw => ct_X10_copyFrom zk s0 (s0 (r0 + 1) x2.toNat).toNat (s0 (r1 + 1) x2.toNat).toNat y20.2 y21.2 hw o h9) kc_250 cm_X10_copyFrom (rcc y20.2 (by decide) (fun _ => rfl) rfl) rfl rfl (Nat.le_of_ble_eq_true rfl) (by decide) (a' := 0) (b' := 0) ⟨rfl, rfl⟩ dX11_copyFrom_62 (fun s22 => ?_)
      refine T_iinc (pc := 65) (L' := [(2, vi (x2 + 1)), (0, .ref (ad r0)), (1, .ref (ad r1))]) C dX11_copyFrom_65 (Nat.le_of_ble_eq_true rfl) 2 rfl rfl ?_
      refine T_goto (pc := 68) C 42 dX11_copyFrom_68 rfl ?_
      refine T_sub (L' := [(0, .ref (ad r0)), (1, .ref (ad r1)), (2, vi (x2 + 1))]) [1, 2, 0] rfl ?_
      exact ih s22 (x2 + 1) (rng_inc c18 h2 z17)
def f_X11_copyFrom (N : Nat) (σ : Sm) (r0 : Nat) (r1 : Nat) : Option Sm :=
  bl (upm σ r0 1 (σ r1 1)) fun s2 => bl (upm s2 r0 2 (s2 r1 2)) fun s4 => bl (upm s4 r0 3 (s4 r1 3)) fun s6 => bl (upm s6 r0 4 (s6 r1 4)) fun s8 => bl (upm s8 r0 5 (s8 r1 5)) fun s10 => (f_X11_copyFrom_42 r0 r1 N s10 0).bind fun q23 => some q23
theorem ct_X11_copyFrom {l : Launch} {cy : Nat → ClassId} {ad : Nat → Nat} {E : Nat → Nat → Nat} {G : va_G} {Z : vZ} (zk : Zk Z E) (N : Nat) (σ : Sm) (r0 : Nat) (r1 : Nat) (k0 : kd r0 = 11) (k1 : kd r1 = 11) (hw : wfc σ) (o : Sm) (h : f_X11_copyFrom N σ r0 r1 = some o) : CzV Z l yX11_copyFrom cX11_copyFrom 3 rm_X11_copyFrom (wlc cy ad E) wfc G (tyc cy) [.ref (ad r0), .ref (ad r1)] σ o := by
  refine czV_of zk.1 (plainFor_of_name (by decide)) (Nat.le_of_ble_eq_true rfl) hw o o h (fun X Y w => EndV X Y cX11_copyFrom rm_X11_copyFrom w) (fun _ _ h => h) (fun X A Q hZ hX C => ?_)
  replace C : Cx X (Yc cy ad E G A 3 Q) cX11_copyFrom RX11 none rm_X11_copyFrom (tyc cy) := C
  replace hZ : Zx Z X (Yc cy ad E G A 3 Q) := hZ
  show T X (Yc cy ad E G A 3 Q) (fun w => EndV X (Yc cy ad E G A 3 Q) cX11_copyFrom rm_X11_copyFrom w) 0 0 0 [(0, .ref (ad r0)), (1, .ref (ad r1))] [] σ (f_X11_copyFrom N σ r0 r1)
  unfold f_X11_copyFrom
  refine T_aload_n (pc := 0) C dX11_copyFrom_0 rfl 0 rfl ?_
  refine T_aload_n (pc := 1) C dX11_copyFrom_1 rfl 1 rfl ?_
  refine Tc_geti (pc := 2) C r1 11 1 6 k1 (by decide) (fun _ => rfl) rfl inX11 (by decide) rfl kc_244 dX11_copyFrom_2 (fun z1 => ?_)
  refine Tc_put (pc := 5) C (ty := .int) r0 11 1 6 k0 (by decide) (fun _ => rfl) rfl inX11 (by decide) (fun _ => rfl) z1 tyX11 tyX11_ok nmX11 rfl (Nat.le_of_ble_eq_true rfl) kc_244 rfl (nar_I _) (fit_I _) dX11_copyFrom_5 ?_
  refine T_blS (fun s2 => ?_)
  refine T_aload_n (pc := 8) C dX11_copyFrom_8 rfl 0 rfl ?_
  refine T_aload_n (pc := 9) C dX11_copyFrom_9 rfl 1 rfl ?_
  refine Tc_geti (pc := 10) C r1 11 2 6 k1 (by decide) (fun _ => rfl) rfl inX11 (by decide) rfl kc_245 dX11_copyFrom_10 (fun z3 => ?_)
  refine Tc_put (pc := 13) C (ty := .int) r0 11 2 6 k0 (by decide) (fun _ => rfl) rfl inX11 (by decide) (fun _ => rfl) z3 tyX11 tyX11_ok nmX11 rfl (Nat.le_of_ble_eq_true rfl) kc_245 rfl (nar_I _) (fit_I _) dX11_copyFrom_13 ?_
  refine T_blS (fun s4 => ?_)
  refine T_aload_n (pc := 16) C dX11_copyFrom_16 rfl 0 rfl ?_
  refine T_aload_n (pc := 17) C dX11_copyFrom_17 rfl 1 rfl ?_
  refine Tc_geti (pc := 18) C r1 11 3 6 k1 (by decide) (fun _ => rfl) rfl inX11 (by decide) rfl kc_246 dX11_copyFrom_18 (fun z5 => ?_)
  refine Tc_put (pc := 21) C (ty := .int) r0 11 3 6 k0 (by decide) (fun _ => rfl) rfl inX11 (by decide) (fun _ => rfl) z5 tyX11 tyX11_ok nmX11 rfl (Nat.le_of_ble_eq_true rfl) kc_246 rfl (nar_I _) (fit_I _) dX11_copyFrom_21 ?_
  refine T_blS (fun s6 => ?_)
  refine T_aload_n (pc := 24) C dX11_copyFrom_24 rfl 0 rfl ?_
  refine T_aload_n (pc := 25) C dX11_copyFrom_25 rfl 1 rfl ?_
  refine Tc_geti (pc := 26) C r1 11 4 6 k1 (by decide) (fun _ => rfl) rfl inX11 (by decide) rfl kc_247 dX11_copyFrom_26 (fun z7 => ?_)
  refine Tc_put (pc := 29) C (ty := .int) r0 11 4 6 k0 (by decide) (fun _ => rfl) rfl inX11 (by decide) (fun _ => rfl) z7 tyX11 tyX11_ok nmX11 rfl (Nat.le_of_ble_eq_true rfl) kc_247 rfl (nar_I _) (fit_I _) dX11_copyFrom_29 ?_
  refine T_blS (fun s8 => ?_)
  refine T_aload_n (pc := 32) C dX11_copyFrom_32 rfl 0 rfl ?_
  refine T_aload_n (pc := 33) C dX11_copyFrom_33 rfl 1 rfl ?_
  refine Tc_geti (pc := 34) C r1 11 5 6 k1 (by decide) (fun _ => rfl) rfl inX11 (by decide) rfl kc_248 dX11_copyFrom_34 (fun z9 => ?_)
  refine Tc_put (pc := 37) C (ty := .int) r0 11 5 6 k0 (by decide) (fun _ => rfl) rfl inX11 (by decide) (fun _ => rfl) z9 tyX11 tyX11_ok nmX11 rfl (Nat.le_of_ble_eq_true rfl) kc_248 rfl (nar_I _) (fit_I _) dX11_copyFrom_37 ?_
  refine T_blS (fun s10 => ?_)
  refine T_iconst (pc := 40) C dX11_copyFrom_40 ?_
  refine T_istore_n (pc := 41) (L' := [(2, vi 0), (0, .ref (ad r0)), (1, .ref (ad r1))]) C dX11_copyFrom_41 rfl (Nat.le_of_ble_eq_true rfl) rfl ?_
  refine T_sub (L' := [(0, .ref (ad r0)), (1, .ref (ad r1)), (2, vi 0)]) [1, 2, 0] rfl ?_
  refine T_loopE (lp_X11_copyFrom_42 zk hZ C r0 r1 k0 k1 N s10 0 (rngL rfl)) (fun q23 hq23 => ?_)
  exact T_vret (pc := 71) q23 (fun h9 => h9) (by decide) dX11_copyFrom_71

abbrev rm_X7_copyFrom : Room := ⟨1, 0, 0, 64⟩
theorem cm_X7_copyFrom : cmV yX7_copyFrom cX7_copyFrom 2 none 1 := ⟨kc_24, kc_110, ⟨by decide +kernel, by decide +kernel, by decide +kernel⟩, kc_259, kc_260⟩
def f_X7_copyFrom (σ : Sm) (r0 : Nat) (r1 : Nat) : Option Sm :=
  bl (upm σ r0 0 (σ r1 0)) fun s2 => bl (upm s2 r0 1 (s2 r1 1)) fun s4 => bl (upm s4 r0 2 (s4 r1 2)) fun s6 => bl (upm s6 r0 3 (s6 r1 3)) fun s8 => bl (upm s8 r0 4 (s8 r1 4)) fun s10 => bl (upm s10 r0 5 (s10 r1 5)) fun s12 => bl (upm s12 r0 6 (s12 r1 6)) fun s14 => bl (cpm s14 (r1 + 1) (r0 + 1) 6) fun s15 => some s15
theorem ct_X7_copyFrom {l : Launch} {cy : Nat → ClassId} {ad : Nat → Nat} {E : Nat → Nat → Nat} {G : va_G} {Z : vZ} (zk : Zk Z E) (σ : Sm) (r0 : Nat) (r1 : Nat) (k0 : kd r0 = 7) (k1 : kd r1 = 7) (hw : wfc σ) (o : Sm) (h : f_X7_copyFrom σ r0 r1 = some o) : CzV Z l yX7_copyFrom cX7_copyFrom 2 rm_X7_copyFrom (wlc cy ad E) wfc G (tyc cy) [.ref (ad r0), .ref (ad r1)] σ o := by
  refine czV_of zk.1 (plainFor_of_name (by decide)) (Nat.le_of_ble_eq_true rfl) hw o o h (fun X Y w => EndV X Y cX7_copyFrom rm_X7_copyFrom w) (fun _ _ h => h) (fun X A Q hZ hX C => ?_)
  replace C : Cx X (Yc cy ad E G A 2 Q) cX7_copyFrom RX7 none rm_X7_copyFrom (tyc cy) := C
  replace hZ : Zx Z X (Yc cy ad E G A 2 Q) := hZ
  show T X (Yc cy ad E G A 2 Q) (fun w => EndV X (Yc cy ad E G A 2 Q) cX7_copyFrom rm_X7_copyFrom w) 0 0 0 [(0, .ref (ad r0)), (1, .ref (ad r1))] [] σ (f_X7_copyFrom σ r0 r1)
  unfold f_X7_copyFrom
  refine T_aload_n (pc := 0) C dX7_copyFrom_0 rfl 0 rfl ?_
  refine T_aload_n (pc := 1) C dX7_copyFrom_1 rfl 1 rfl ?_
  refine Tc_geti (pc := 2) C r1 7 0 8 k1 (by decide) (fun _ => rfl) rfl inX7 (by decide) rfl kc_115 dX7_copyFrom_2 (fun z1 => ?_)
  refine Tc_put (pc := 5) C (ty := .int) r0 7 0 8 k0 (by decide) (fun _ => rfl) rfl inX7 (by decide) (fun _ => rfl) ⟨z1.1, fun e9 => absurd e9 (by decide)⟩ tyX7 tyX7_ok nmX7 rfl (Nat.le_of_ble_eq_true rfl) kc_115 rfl (nar_I _) (fit_I _) dX7_copyFrom_5 ?_
  refine T_blS (fun s2 => ?_)
  refine T_aload_n (pc := 8) C dX7_copyFrom_8 rfl 0 rfl ?_
  refine T_aload_n (pc := 9) C dX7_copyFrom_9 rfl 1 rfl ?_
  refine Tc_geti (pc := 10) C r1 7 1 8 k1 (by decide) (fun _ => rfl) rfl inX7 (by decide) rfl kc_113 dX7_copyFrom_10 (fun z3 => ?_)
  refine Tc_put (pc := 13) C (ty := .int) r0 7 1 8 k0 (by decide) (fun _ => rfl) rfl inX7 (by decide) (fun _ => rfl) ⟨z3.1, fun e9 => absurd e9 (by decide)⟩ tyX7 tyX7_ok nmX7 rfl (Nat.le_of_ble_eq_true rfl) kc_113 rfl (nar_I _) (fit_I _) dX7_copyFrom_13 ?_
  refine T_blS (fun s4 => ?_)
  refine T_aload_n (pc := 16) C dX7_copyFrom_16 rfl 0 rfl ?_
  refine T_aload_n (pc := 17) C dX7_copyFrom_17 rfl 1 rfl ?_
  refine Tc_geti (pc := 18) C r1 7 2 8 k1 (by decide) (fun _ => rfl) rfl inX7 (by decide) rfl kc_108 dX7_copyFrom_18 (fun z5 => ?_)
  refine Tc_put (pc := 21) C (ty := .int) r0 7 2 8 k0 (by decide) (fun _ => rfl) rfl inX7 (by decide) (fun _ => rfl) ⟨z5.1, fun e9 => absurd e9 (by decide)⟩ tyX7 tyX7_ok nmX7 rfl (Nat.le_of_ble_eq_true rfl) kc_108 rfl (nar_I _) (fit_I _) dX7_copyFrom_21 ?_
  refine T_blS (fun s6 => ?_)
  refine T_aload_n (pc := 24) C dX7_copyFrom_24 rfl 0 rfl ?_
  refine T_aload_n (pc := 25) C dX7_copyFrom_25 rfl 1 rfl ?_
  refine Tc_geti (pc := 26) C r1 7 3 8 k1 (by decide) (fun _ => rfl) rfl inX7 (by decide) rfl kc_109 dX7_copyFrom_26 (fun z7 => ?_)
  refine Tc_put (pc := 29) C (ty := .int) r0 7 3 8 k0 (by decide) (fun _ => rfl) rfl inX7 (by decide) (fun _ => rfl) ⟨z7.1, fun e9 => absurd e9 (by decide)⟩ tyX7 tyX7_ok nmX7 rfl (Nat.le_of_ble_eq_true rfl) kc_109 rfl (nar_I _) (fit_I _) dX7_copyFrom_29 ?_
  refine T_blS (fun s8 => ?_)
  refine T_aload_n (pc := 32) C dX7_copyFrom_32 rfl 0 rfl ?_
  refine T_aload_n (pc := 33) C dX7_copyFrom_33 rfl 1 rfl ?_
  refine Tc_geti (pc := 34) C r1 7 4 8 k1 (by decide) (fun _ => rfl) rfl inX7 (by decide) rfl kc_254 dX7_copyFrom_34 (fun z9 => ?_)
  refine Tc_put (pc := 37) C (ty := .int) r0 7 4 8 k0 (by decide) (fun _ => rfl) rfl inX7 (by decide) (fun _ => rfl) ⟨z9.1, fun e9 => absurd e9 (by decide)⟩ tyX7 tyX7_ok nmX7 rfl (Nat.le_of_ble_eq_true rfl) kc_254 rfl (nar_I _) (fit_I _) dX7_copyFrom_37 ?_
  refine T_blS (fun s10 => ?_)
  refine T_aload_n (pc := 40) C dX7_copyFrom_40 rfl 0 rfl ?_
  refine T_aload_n (pc := 41) C dX7_copyFrom_41 rfl 1 rfl ?_
  refine Tc_geti (pc := 42) C r1 7 5 8 k1 (by decide) (fun _ => rfl) rfl inX7 (by decide) rfl kc_134 dX7_copyFrom_42 (fun z11 => ?_)
  refine Tc_put (pc := 45) C (ty := .boolean) r0 7 5 8 k0 (by decide) (fun _ => rfl) rfl inX7 (by decide) (fun _ => rfl) ⟨bit_rng (z11.2 rfl), fun _ => (z11.2 rfl)⟩ tyX7 tyX7_ok nmX7 rfl (Nat.le_of_ble_eq_true rfl) kc_134 rfl (nar_Z (z11.2 rfl)) (fit_Z (z11.2 rfl)) dX7_copyFrom_45 ?_
  refine T_blS (fun s12 => ?_)
  refine T_aload_n (pc := 48) C dX7_copyFrom_48 rfl 0 rfl ?_
  refine T_aload_n (pc := 49) C dX7_copyFrom_49 rfl 1 rfl ?_
  refine Tc_geti (pc := 50) C r1 7 6 8 k1 (by decide) (fun _ => rfl) rfl inX7 (by decide) rfl kc_118 dX7_copyFrom_50 (fun z13 => ?_)
  refine Tc_put (pc := 53) C (ty := .int) r0 7 6 8 k0 (by decide) (fun _ => rfl) rfl inX7 (by decide) (fun _ => rfl) ⟨z13.1, fun e9 => absurd e9 (by decide)⟩ tyX7 tyX7_ok nmX7 rfl (Nat.le_of_ble_eq_true rfl) kc_118 rfl (nar_I _) (fit_I _) dX7_copyFrom_53 ?_
  refine T_blS (fun s14 => ?_)
  refine T_aload_n (pc := 56) C dX7_copyFrom_56 rfl 1 rfl ?_
  refine Tc_getr (pc := 57) C r1 7 7 8 k1 (by decide) (fun _ => rfl) rfl inX7 (by decide) (v := .ref (ad (r1 + 1))) rfl kc_119 dX7_copyFrom_57 ?_
  refine T_iconst (pc := 60) C dX7_copyFrom_60 ?_
  refine T_aload_n (pc := 61) C dX7_copyFrom_61 rfl 0 rfl ?_
  refine Tc_getr (pc := 62) C r0 7 7 8 k0 (by decide) (fun _ => rfl) rfl inX7 (by decide) (v := .ref (ad (r0 + 1))) rfl kc_119 dX7_copyFrom_62 ?_
  refine T_iconst (pc := 65) C dX7_copyFrom_65 ?_
  refine T_bipush (pc := 66) C dX7_copyFrom_66 (by decide) ?_
  refine Tc_copy (pc := 68) C (r1 + 1) (r0 + 1) 22 6 (kd_7 k1) (kd_7 k0) ⟨by decide, by decide⟩ rfl rfl rfl kc_255 kc_256 kc_257 kc_258 (by decide) (by decide +kernel) dX7_copyFrom_68 ?_
  refine T_blS (fun s15 => ?_)
  exact T_vret (pc := 71) s15 (fun h9 => h9) (by decide) dX7_copyFrom_71

abbrev rm_X8_copyFrom : Room := ⟨2, 0, 0, 85⟩
theorem cm_X8_copyFrom : cmV yX8_copyFrom cX8_copyFrom 3 none 1 := ⟨kc_36, kc_147, ⟨by decide +kernel, by decide +kernel, by decide +kernel⟩, kc_272, kc_273⟩
def f_X8_copyFrom_41 (r0 : Nat) (r1 : Nat) : Nat → Sm → Int → Option (Sm)
  | 0, _, _ => none
  | n + 1, s0, x2 => (if 10 ≤ x2 then some s0 else if 0 ≤ x2 ∧ x2 < 10 then bl (upm s0 (r0 + 2) x2.toNat (s0 (r1 + 2) x2.toNat)) fun s15 => f_X8_copyFrom_41 r0 r1 n s15 (x2 + 1) else none)
theorem lp_X8_copyFrom_41 {X : vjX} {A : Nat → Prop} {Q : State → Prop} {cy : Nat → ClassId} {ad : Nat → Nat} {E : Nat → Nat → Nat} {G : va_G} {Z : vZ} (zk : Zk Z E) (hZ : Zx Z X (Yc cy ad E G A 3 Q)) (C : Cx X (Yc cy ad E G A 3 Q) cX8_copyFrom RX8 none rm_X8_copyFrom (tyc cy)) (r0 : Nat) (r1 : Nat) (k0 : kd r0 = 8) (k1 : kd r1 = 8) : ∀ (n : Nat) (s0 : Sm) (x2 : Int) (h2 : rng x2), T X (Yc cy ad E G A 3 Q) (fun (q : Sm) => True → J X (Yc cy ad E G A 3 Q) 0 0 65 [(0, .ref (ad r0)), (1, .ref (ad r1))] [] q) 0 0 41 [(0, .ref (ad r0)), (1, .ref (ad r1)), (2, vi x2)] [] s0 (f_X8_copyFrom_41 r0 r1 n s0 x2) := by
  intro n
  induction n with
  | zero => intro s0 x2 h2; exact T_none
  | succ n ih =>
    intro s0 x2 h2
    rw [f_X8_copyFrom_41]
    refine T_iload_n (pc := 41) C dX8_copyFrom_41 rfl 2 rfl ?_
    refine T_bipush (pc := 42) C dX8_copyFrom_42 (by decide) ?_
    refine T_icmp_ge (pc := 44) C 65 dX8_copyFrom_44 rfl h2 (rngL rfl) (fun c12 => ?_) (fun c12 => ?_)
    · refine T_sub (L' := [(0, .ref (ad r0)), (1, .ref (ad r1))]) [0, 1] rfl ?_
      exact T_exit (fun h9 => h9 trivial)
    · refine T_aload_n (pc := 47) C dX8_copyFrom_47 rfl 0 rfl ?_
      refine Tc_getr (pc := 48) C r0 8 4 10 k0 (by decide) (fun _ => rfl) rfl inX8 (by decide) (v := .ref (ad (r0 + 2))) rfl kc_151 dX8_copyFrom_48 ?_
      refine T_iload_n (pc := 51) C dX8_copyFrom_51 rfl 2 rfl ?_
      refine T_aload_n (pc := 52) C dX8_copyFrom_52 rfl 1 rfl ?_
      refine Tc_getr (pc := 53) C r1 8 4 10 k1 (by decide) (fun _ => rfl) rfl inX8 (by decide) (v := .ref (ad (r1 + 2))) rfl kc_151 dX8_copyFrom_53 ?_
      refine T_iload_n (pc := 56) C dX8_copyFrom_56 rfl 2 rfl ?_
      refine T_guard (fun g13 => ?_)
      refine Tc_zald (pc := 57) C (r1 + 2) x2.toNat (kd_8 k1).2.1 g13 rfl dX8_copyFrom_57 (fun z14 => ?_)
      refine Tc_zast (pc := 58) C (r0 + 2) x2.toNat (kd_8 k0).2.1 g13 rfl z14 dX8_copyFrom_58 ?_
      refine T_blS (fun s15 => ?_)
      refine T_iinc (pc := 59) (L' := [(2, vi (x2 + 1)), (0, .ref (ad r0)), (1, .ref (ad r1))]) C dX8_copyFrom_59 (Nat.le_of_ble_eq_true rfl) 2 rfl rfl ?_
      refine T_goto (pc := 62) C 41 dX8_copyFrom_62 rfl ?_
      refine T_sub (L' := [(0, .ref (ad r0)), (1, .ref (ad r1)), (2, vi (x2 + 1))]) [1, 2, 0] rfl ?_
      exact ih s15 (x2 + 1) (rng_inc c12 h2 (rngL rfl))
def f_X8_copyFrom_98 (r0 : Nat) (r1 : Nat) : Nat → Sm → Int → Option (Sm)
  | 0, _, _ => none
  | n + 1, s0, x2 => (if (s0 r0 7) ≤ x2 then some s0 else if 0 ≤ x2 ∧ x2 < 5 then (f_X7_copyFrom s0 (r0 + 23 + 2 * x2.toNat) (r1 + 23 + 2 * x2.toNat)).bind fun s33 => f_X8_copyFrom_98 r0 r1 n s33 (x2 + 1) else none)
theorem lp_X8_copyFrom_98 {X : vjX} {A : Nat → Prop} {Q : State → Prop} {cy : Nat → ClassId} {ad : Nat → Nat} {E : Nat → Nat → Nat} {G : va_G} {Z : vZ} (zk : Zk Z E) (hZ : Zx Z X (Yc cy ad E G A 3 Q)) (C : Cx X (Yc cy ad E G A 3 Q) cX8_copyFrom RX8 none rm_X8_copyFrom (tyc cy)) (r0 : Nat) (r1 : Nat) (k0 : kd r0 = 8) (k1 : kd r1 = 8) : ∀ (n : Nat) (s0 : Sm) (x2 : Int) (h2 : rng x2), T X (Yc cy ad E G A 3 Q) (fun (q : Sm) => True → J X (Yc cy ad E G A 3 Q) 0 0 127 [(0, .ref (ad r0)), (1, .ref (ad r1))] [] q) 0 0 98 [(0, .ref (ad r0)), (1, .ref (ad r1)), (2, vi x2)] [] s0 (f_X8_copyFrom_98 r0 r1 n s0 x2) := by
  intro n
  induction n with
  | zero => intro s0 x2 h2; exact T_none
  | succ n ih =>
    intro s0 x2 h2
    rw [f_X8_copyFrom_98]
    refine T_iload_n (pc := 98) C dX8_copyFrom_98 rfl 2 rfl ?_
    refine T_aload_n (pc := 99) C dX8_copyFrom_99 rfl 0 rfl ?_
    refine Tc_geti (pc := 100) C r0 8 7 10 k0 (by decide) (fun _ => rfl) rfl inX8 (by decide) rfl kc_267 dX8_copyFrom_100 (fun z28 => ?_)
    refine T_icmp_ge (pc := 103) C 127 dX8_copyFrom_103 rfl h2 z28.1 (fun c29 => ?_) (fun c29 => ?_)
    · refine T_sub (L' := [(0, .ref (ad r0)), (1, .ref (ad r1))]) [0, 1] rfl ?_
      exact T_exit (fun h9 => h9 trivial)
    · refine T_aload_n (pc := 106) C dX8_copyFrom_106 rfl 0 rfl ?_
      refine Tc_getr (pc := 107) C r0 8 8 10 k0 (by decide) (fun _ => rfl) rfl inX8 (by decide) (v := .ref (ad (r0 + 4))) rfl kc_268 dX8_copyFrom_107 ?_
      refine T_iload_n (pc := 110) C dX8_copyFrom_110 rfl 2 rfl ?_
      refine T_guard (fun g30 => ?_)
      refine Tc_ald27 (pc := 111) C r0 k0 g30 dX8_copyFrom_111 (fun y31 => ?_)
      refine T_aload_n (pc := 112) C dX8_copyFrom_112 rfl 1 rfl ?_
      refine Tc_getr (pc := 113) C r1 8 8 10 k1 (by decide) (fun _ => rfl) rfl inX8 (by decide) (v := .ref (ad (r1 + 4))) rfl kc_268 dX8_copyFrom_113 ?_
      refine T_iload_n (pc := 116) C dX8_copyFrom_116 rfl 2 rfl ?_
      refine Tc_ald27 (pc := 117) C r1 k1 g30 dX8_copyFrom_117 (fun y32 => ?_)
      refine T_czVv (pc := 118) zk.1 hZ C [.ref (ad (r1 + 23 + 2 * x2.toNat))] [] (fun o h9 hw => ct_X7_copyFrom zk s0 (r0 + 23 + 2 * x2.toNat) (r1 + 23 + 2 * x2.toNat) y31 y32 hw o h9) kc_269 cm_X7_copyFrom (rcc y31 (by decide) (fun _ => rfl) rfl) rfl rfl (Nat.le_of_ble_eq_true rfl) (by decide) (a' := 0) (b' := 0) ⟨rfl, rfl⟩ dX8_copyFrom_118 (fun s33 => ?_)
      refine T_iinc (pc := 121) (L' := [(2, vi (x2 + 1)), (0, .ref (ad r0)), (1, .ref (ad r1))]) C dX8_copyFrom_121 (Nat.le_of_ble_eq_true rfl) 2 rfl rfl ?_
      refine T_goto (pc := 124) C 98 dX8_copyFrom_124 rfl ?_
      refine T_sub (L' := [(0, .ref (ad r0)), (1, .ref (ad r1)), (2, vi (x2 + 1))]) [1, 2, 0] rfl ?_
      exact ih s33 (x2 + 1) (rng_inc c29 h2 z28.1)
def f_X8_copyFrom (N : Nat) (σ : Sm) (r0 : Nat) (r1 : Nat) : Option Sm :=
  bl (upm σ r0 0 (σ r1 0)) fun s2 => bl (upm s2 r0 1 (s2 r1 1)) fun s4 => bl (upm s4 r0 2 (s4 r1 2)) fun s6 => bl (cpm s6 (r1 + 1) (r0 + 1) 10) fun s7 => (f_X8_copyFrom_41 r0 r1 N s7 0).bind fun q16 => bl (upm q16 r0 5 (q16 r1 5)) fun s18 => bl (cpm s18 (r1 + 3) (r0 + 3) 100) fun s19 => bl (upm s19 r0 7 (s19 r1 7)) fun s21 => (f_X8_copyFrom_98 r0 r1 N s21 0).bind fun q34 => (f_X11_copyFrom N q34 (r0 + 5) (r1 + 5)).bind fun s35 => some s35
theorem ct_X8_copyFrom {l : Launch} {cy : Nat → ClassId} {ad : Nat → Nat} {E : Nat → Nat → Nat} {G : va_G} {Z : vZ} (zk : Zk Z E) (N : Nat) (σ : Sm) (r0 : Nat) (r1 : Nat) (k0 : kd r0 = 8) (k1 : kd r1 = 8) (hw : wfc σ) (o : Sm) (h : f_X8_copyFrom N σ r0 r1 = some o) : CzV Z l yX8_copyFrom cX8_copyFrom 3 rm_X8_copyFrom (wlc cy ad E) wfc G (tyc cy) [.ref (ad r0), .ref (ad r1)] σ o := by
  refine czV_of zk.1 (plainFor_of_name (by decide)) (Nat.le_of_ble_eq_true rfl) hw o o h (fun X Y w => EndV X Y cX8_copyFrom rm_X8_copyFrom w) (fun _ _ h => h) (fun X A Q hZ hX C => ?_)
  replace C : Cx X (Yc cy ad E G A 3 Q) cX8_copyFrom RX8 none rm_X8_copyFrom (tyc cy) := C
  replace hZ : Zx Z X (Yc cy ad E G A 3 Q) := hZ
  show T X (Yc cy ad E G A 3 Q) (fun w => EndV X (Yc cy ad E G A 3 Q) cX8_copyFrom rm_X8_copyFrom w) 0 0 0 [(0, .ref (ad r0)), (1, .ref (ad r1))] [] σ (f_X8_copyFrom N σ r0 r1)
  unfold f_X8_copyFrom
  refine T_aload_n (pc := 0) C dX8_copyFrom_0 rfl 0 rfl ?_
  refine T_aload_n (pc := 1) C dX8_copyFrom_1 rfl 1 rfl ?_
  refine Tc_geti (pc := 2) C r1 8 0 10 k1 (by decide) (fun _ => rfl) rfl inX8 (by decide) rfl kc_261 dX8_copyFrom_2 (fun z1 => ?_)
  refine Tc_put (pc := 5) C (ty := .int) r0 8 0 10 k0 (by decide) (fun _ => rfl) rfl inX8 (by decide) (fun _ => rfl) ⟨z1.1, fun e9 => absurd e9 (by decide)⟩ tyX8 tyX8_ok nmX8 rfl (Nat.le_of_ble_eq_true rfl) kc_261 rfl (nar_I _) (fit_I _) dX8_copyFrom_5 ?_
  refine T_blS (fun s2 => ?_)
  refine T_aload_n (pc := 8) C dX8_copyFrom_8 rfl 0 rfl ?_
  refine T_aload_n (pc := 9) C dX8_copyFrom_9 rfl 1 rfl ?_
  refine Tc_geti (pc := 10) C r1 8 1 10 k1 (by decide) (fun _ => rfl) rfl inX8 (by decide) rfl kc_262 dX8_copyFrom_10 (fun z3 => ?_)
  refine Tc_put (pc := 13) C (ty := .boolean) r0 8 1 10 k0 (by decide) (fun _ => rfl) rfl inX8 (by decide) (fun _ => rfl) ⟨bit_rng (z3.2 rfl), fun _ => (z3.2 rfl)⟩ tyX8 tyX8_ok nmX8 rfl (Nat.le_of_ble_eq_true rfl) kc_262 rfl (nar_Z (z3.2 rfl)) (fit_Z (z3.2 rfl)) dX8_copyFrom_13 ?_
  refine T_blS (fun s4 => ?_)
  refine T_aload_n (pc := 16) C dX8_copyFrom_16 rfl 0 rfl ?_
  refine T_aload_n (pc := 17) C dX8_copyFrom_17 rfl 1 rfl ?_
  refine Tc_geti (pc := 18) C r1 8 2 10 k1 (by decide) (fun _ => rfl) rfl inX8 (by decide) rfl kc_263 dX8_copyFrom_18 (fun z5 => ?_)
  refine Tc_put (pc := 21) C (ty := .int) r0 8 2 10 k0 (by decide) (fun _ => rfl) rfl inX8 (by decide) (fun _ => rfl) ⟨z5.1, fun e9 => absurd e9 (by decide)⟩ tyX8 tyX8_ok nmX8 rfl (Nat.le_of_ble_eq_true rfl) kc_263 rfl (nar_I _) (fit_I _) dX8_copyFrom_21 ?_
  refine T_blS (fun s6 => ?_)
  refine T_aload_n (pc := 24) C dX8_copyFrom_24 rfl 1 rfl ?_
  refine Tc_getr (pc := 25) C r1 8 3 10 k1 (by decide) (fun _ => rfl) rfl inX8 (by decide) (v := .ref (ad (r1 + 1))) rfl kc_264 dX8_copyFrom_25 ?_
  refine T_iconst (pc := 28) C dX8_copyFrom_28 ?_
  refine T_aload_n (pc := 29) C dX8_copyFrom_29 rfl 0 rfl ?_
  refine Tc_getr (pc := 30) C r0 8 3 10 k0 (by decide) (fun _ => rfl) rfl inX8 (by decide) (v := .ref (ad (r0 + 1))) rfl kc_264 dX8_copyFrom_30 ?_
  refine T_iconst (pc := 33) C dX8_copyFrom_33 ?_
  refine T_bipush (pc := 34) C dX8_copyFrom_34 (by decide) ?_
  refine Tc_copy (pc := 36) C (r1 + 1) (r0 + 1) 20 10 (kd_8 k1).1 (kd_8 k0).1 ⟨by decide, by decide⟩ rfl rfl rfl kc_265 kc_256 kc_257 kc_258 (by decide) (by decide +kernel) dX8_copyFrom_36 ?_
  refine T_blS (fun s7 => ?_)
  refine T_iconst (pc := 39) C dX8_copyFrom_39 ?_
  refine T_istore_n (pc := 40) (L' := [(2, vi 0), (0, .ref (ad r0)), (1, .ref (ad r1))]) C dX8_copyFrom_40 rfl (Nat.le_of_ble_eq_true rfl) rfl ?_
  refine T_sub (L' := [(0, .ref (ad r0)), (1, .ref (ad r1)), (2, vi 0)]) [1, 2, 0] rfl ?_
  refine T_loopE (lp_X8_copyFrom_41 zk hZ C r0 r1 k0 k1 N s7 0 (rngL rfl)) (fun q16 hq16 => ?_)
  refine T_aload_n (pc := 65) C dX8_copyFrom_65 rfl 0 rfl ?_
  refine T_aload_n (pc := 66) C dX8_copyFrom_66 rfl 1 rfl ?_
  refine Tc_geti (pc := 67) C r1 8 5 10 k1 (by decide) (fun _ => rfl) rfl inX8 (by decide) rfl kc_266 dX8_copyFrom_67 (fun z17 => ?_)
  refine Tc_put (pc := 70) C (ty := .int) r0 8 5 10 k0 (by decide) (fun _ => rfl) rfl inX8 (by decide) (fun _ => rfl) ⟨z17.1, fun e9 => absurd e9 (by decide)⟩ tyX8 tyX8_ok nmX8 rfl (Nat.le_of_ble_eq_true rfl) kc_266 rfl (nar_I _) (fit_I _) dX8_copyFrom_70 ?_
  refine T_blS (fun s18 => ?_)
  refine T_aload_n (pc := 73) C dX8_copyFrom_73 rfl 1 rfl ?_
  refine Tc_getr (pc := 74) C r1 8 6 10 k1 (by decide) (fun _ => rfl) rfl inX8 (by decide) (v := .ref (ad (r1 + 3))) rfl kc_146 dX8_copyFrom_74 ?_
  refine T_iconst (pc := 77) C dX8_copyFrom_77 ?_
  refine T_aload_n (pc := 78) C dX8_copyFrom_78 rfl 0 rfl ?_
  refine Tc_getr (pc := 79) C r0 8 6 10 k0 (by decide) (fun _ => rfl) rfl inX8 (by decide) (v := .ref (ad (r0 + 3))) rfl kc_146 dX8_copyFrom_79 ?_
  refine T_iconst (pc := 82) C dX8_copyFrom_82 ?_
  refine T_bipush (pc := 83) C dX8_copyFrom_83 (by decide) ?_
  refine Tc_copy (pc := 85) C (r1 + 3) (r0 + 3) 21 100 (kd_8 k1).2.2.1 (kd_8 k0).2.2.1 ⟨by decide, by decide⟩ rfl rfl rfl kc_265 kc_256 kc_257 kc_258 (by decide) (by decide +kernel) dX8_copyFrom_85 ?_
  refine T_blS (fun s19 => ?_)
  refine T_aload_n (pc := 88) C dX8_copyFrom_88 rfl 0 rfl ?_
  refine T_aload_n (pc := 89) C dX8_copyFrom_89 rfl 1 rfl ?_
  refine Tc_geti (pc := 90) C r1 8 7 10 k1 (by decide) (fun _ => rfl) rfl inX8 (by decide) rfl kc_267 dX8_copyFrom_90 (fun z20 => ?_)
  refine Tc_put (pc := 93) C (ty := .int) r0 8 7 10 k0 (by decide) (fun _ => rfl) rfl inX8 (by decide) (fun _ => rfl) ⟨z20.1, fun e9 => absurd e9 (by decide)⟩ tyX8 tyX8_ok nmX8 rfl (Nat.le_of_ble_eq_true rfl) kc_267 rfl (nar_I _) (fit_I _) dX8_copyFrom_93 ?_
  refine T_blS (fun s21 => ?_)
  refine T_iconst (pc := 96) C dX8_copyFrom_96 ?_
  refine T_istore_n (pc := 97) (L' := [(2, vi 0), (0, .ref (ad r0)), (1, .ref (ad r1))]) C dX8_copyFrom_97 rfl (Nat.le_of_ble_eq_true rfl) rfl ?_
  refine T_sub (L' := [(0, .ref (ad r0)), (1, .ref (ad r1)), (2, vi 0)]) [1, 2, 0] rfl ?_
  refine T_loopE (lp_X8_copyFrom_98 zk hZ C r0 r1 k0 k1 N s21 0 (rngL rfl)) (fun q34 hq34 => ?_)
  refine T_aload_n (pc := 127) C dX8_copyFrom_127 rfl 0 rfl ?_
  refine Tc_getr (pc := 128) C r0 8 9 10 k0 (by decide) (fun _ => rfl) rfl inX8 (by decide) (v := .ref (ad (r0 + 5))) rfl kc_270 dX8_copyFrom_128 ?_
  refine T_aload_n (pc := 131) C dX8_copyFrom_131 rfl 1 rfl ?_
  refine Tc_getr (pc := 132) C r1 8 9 10 k1 (by decide) (fun _ => rfl) rfl inX8 (by decide) (v := .ref (ad (r1 + 5))) rfl kc_270 dX8_copyFrom_132 ?_
  refine T_czVv (pc := 135) zk.1 hZ C [.ref (ad (r1 + 5))] [] (fun o h9 hw => ct_X11_copyFrom zk N q34 (r0 + 5) (r1 + 5) (kd_8 k0).2.2.2.2.1 (kd_8 k1).2.2.2.2.1 hw o h9) kc_271 cm_X11_copyFrom (rcc (kd_8 k0).2.2.2.2.1 (by decide) (fun _ => rfl) rfl) rfl rfl (Nat.le_of_ble_eq_true rfl) (by decide) (a' := 0) (b' := 0) ⟨rfl, rfl⟩ dX8_copyFrom_135 (fun s35 => ?_)
  exact T_vret (pc := 138) s35 (fun h9 => h9) (by decide) dX8_copyFrom_138

abbrev rm_X6_keep : Room := ⟨3, 0, 0, 107⟩
theorem cm_X6_keep : cmV yX6_keep cX6_keep 2 none 1 := ⟨kc_22, kc_279, ⟨by decide +kernel, by decide +kernel, by decide +kernel⟩, kc_280, kc_281⟩
def f_X6_keep (N : Nat) (σ : Sm) (r0 : Nat) (r1 : Nat) : Option Sm :=
  if 0 ≤ (σ r0 1) ∧ (σ r0 1) < 8 then (f_X8_copyFrom N σ (102 + 33 * (σ r0 1).toNat) r1).bind fun s4 => (if (s4 r0 1) = 7 then bl (upm s4 r0 1 0) fun s14 => if rng ((s14 r0 2) + 1) then (f_J9_min_7cf53 ((s14 r0 2) + 1) 8).bind fun v17 => bl (upm s14 r0 2 v17) fun s18 => some s18 else none else if rng ((s4 r0 1) + 1) then bl (upm s4 r0 1 ((s4 r0 1) + 1)) fun s9 => if rng ((s9 r0 2) + 1) then (f_J9_min_7cf53 ((s9 r0 2) + 1) 8).bind fun v12 => bl (upm s9 r0 2 v12) fun s13 => some s13 else none else none) else none
theorem ct_X6_keep {l : Launch} {cy : Nat → ClassId} {ad : Nat → Nat} {E : Nat → Nat → Nat} {G : va_G} {Z : vZ} (zk : Zk Z E) (N : Nat) (σ : Sm) (r0 : Nat) (r1 : Nat) (k0 : kd r0 = 6) (k1 : kd r1 = 8) (hw : wfc σ) (o : Sm) (h : f_X6_keep N σ r0 r1 = some o) : CzV Z l yX6_keep cX6_keep 2 rm_X6_keep (wlc cy ad E) wfc G (tyc cy) [.ref (ad r0), .ref (ad r1)] σ o := by
  refine czV_of zk.1 (plainFor_of_name (by decide)) (Nat.le_of_ble_eq_true rfl) hw o o h (fun X Y w => EndV X Y cX6_keep rm_X6_keep w) (fun _ _ h => h) (fun X A Q hZ hX C => ?_)
  replace C : Cx X (Yc cy ad E G A 2 Q) cX6_keep RX6 none rm_X6_keep (tyc cy) := C
  replace hZ : Zx Z X (Yc cy ad E G A 2 Q) := hZ
  show T X (Yc cy ad E G A 2 Q) (fun w => EndV X (Yc cy ad E G A 2 Q) cX6_keep rm_X6_keep w) 0 0 0 [(0, .ref (ad r0)), (1, .ref (ad r1))] [] σ (f_X6_keep N σ r0 r1)
  unfold f_X6_keep
  refine T_aload_n (pc := 0) C dX6_keep_0 rfl 0 rfl ?_
  refine Tc_getr (pc := 1) C r0 6 0 3 k0 (by decide) (fun _ => rfl) rfl inX6 (by decide) (v := .ref (ad (r0 + 1))) rfl kc_274 dX6_keep_1 ?_
  refine T_aload_n (pc := 4) C dX6_keep_4 rfl 0 rfl ?_
  refine Tc_geti (pc := 5) C r0 6 1 3 k0 (by decide) (fun _ => rfl) rfl inX6 (by decide) rfl kc_275 dX6_keep_5 (fun z1 => ?_)
  refine T_guard (fun g2 => ?_)
  refine Tc_ald29 (pc := 8) C (r0 + 1) (kd_6 k0) g2 dX6_keep_8 (fun y3 => ?_)
  refine T_aload_n (pc := 9) C dX6_keep_9 rfl 1 rfl ?_
  refine T_czVv (pc := 10) zk.1 hZ C [.ref (ad r1)] [] (fun o h9 hw => ct_X8_copyFrom zk N σ (102 + 33 * (σ r0 1).toNat) r1 y3 k1 hw o h9) kc_276 cm_X8_copyFrom (rcc y3 (by decide) (fun _ => rfl) rfl) rfl rfl (Nat.le_of_ble_eq_true rfl) (by decide) (a' := 0) (b' := 0) ⟨rfl, rfl⟩ dX6_keep_10 (fun s4 => ?_)
  refine T_aload_n (pc := 13) C dX6_keep_13 rfl 0 rfl ?_
  refine T_aload_n (pc := 14) C dX6_keep_14 rfl 0 rfl ?_
  refine Tc_geti (pc := 15) C r0 6 1 3 k0 (by decide) (fun _ => rfl) rfl inX6 (by decide) rfl kc_275 dX6_keep_15 (fun z5 => ?_)
  refine T_bipush (pc := 18) C dX6_keep_18 (by decide) ?_
  refine T_icmp_ne (pc := 20) C 27 dX6_keep_20 rfl z5 (rngL rfl) (fun c6 => ?_) (fun c6 => ?_)
  · refine T_aload_n (pc := 27) C dX6_keep_27 rfl 0 rfl ?_
    refine Tc_geti (pc := 28) C r0 6 1 3 k0 (by decide) (fun _ => rfl) rfl inX6 (by decide) rfl kc_275 dX6_keep_28 (fun z7 => ?_)
    refine T_iconst (pc := 31) C dX6_keep_31 ?_
    refine T_iadd (pc := 32) C dX6_keep_32 ?_
    refine T_guard (fun g8 => ?_)
    refine Tc_put (pc := 33) C (ty := .int) r0 6 1 3 k0 (by decide) (fun _ => rfl) rfl inX6 (by decide) (fun _ => rfl) g8 tyX6 tyX6_ok nmX6 rfl (Nat.le_of_ble_eq_true rfl) kc_275 rfl (nar_I _) (fit_I _) dX6_keep_33 ?_
    refine T_blS (fun s9 => ?_)
    refine T_aload_n (pc := 36) C dX6_keep_36 rfl 0 rfl ?_
    refine T_aload_n (pc := 37) C dX6_keep_37 rfl 0 rfl ?_
    refine Tc_geti (pc := 38) C r0 6 2 3 k0 (by decide) (fun _ => rfl) rfl inX6 (by decide) rfl kc_277 dX6_keep_38 (fun z10 => ?_)
    refine T_iconst (pc := 41) C dX6_keep_41 ?_
    refine T_iadd (pc := 42) C dX6_keep_42 ?_
    refine T_bipush (pc := 43) C dX6_keep_43 (by decide) ?_
    refine T_guard (fun g11 => ?_)
    refine T_czSip (pc := 45) zk.1 hZ C [vi ((s9 r0 2) + 1), vi 8] [.ref (ad r0)] (fun o h9 hw => ct_J9_min_7cf53 zk s9 ((s9 r0 2) + 1) 8 g11 (rngL rfl) hw o h9) kc_278 cm_J9_min_7cf53 rfl rfl (Nat.le_of_ble_eq_true rfl) (by decide) (a' := 0) (b' := 0) ⟨rfl, rfl⟩ dX6_keep_45 (fun v12 hv12 => ?_)
    refine Tc_put (pc := 48) C (ty := .int) r0 6 2 3 k0 (by decide) (fun _ => rfl) rfl inX6 (by decide) (fun _ => rfl) hv12.1 tyX6 tyX6_ok nmX6 rfl (Nat.le_of_ble_eq_true rfl) kc_277 rfl (nar_I _) (fit_I _) dX6_keep_48 ?_
    refine T_blS (fun s13 => ?_)
    exact T_vret (pc := 51) s13 (fun h9 => h9) (by decide) dX6_keep_51
  · refine T_iconst (pc := 23) C dX6_keep_23 ?_
    refine T_goto (pc := 24) C 33 dX6_keep_24 rfl ?_
    refine Tc_put (pc := 33) C (ty := .int) r0 6 1 3 k0 (by decide) (fun _ => rfl) rfl inX6 (by decide) (fun _ => rfl) (rngL rfl) tyX6 tyX6_ok nmX6 rfl (Nat.le_of_ble_eq_true rfl) kc_275 rfl (nar_I _) (fit_I _) dX6_keep_33 ?_
    refine T_blS (fun s14 => ?_)
    refine T_aload_n (pc := 36) C dX6_keep_36 rfl 0 rfl ?_
    refine T_aload_n (pc := 37) C dX6_keep_37 rfl 0 rfl ?_
    refine Tc_geti (pc := 38) C r0 6 2 3 k0 (by decide) (fun _ => rfl) rfl inX6 (by decide) rfl kc_277 dX6_keep_38 (fun z15 => ?_)
    refine T_iconst (pc := 41) C dX6_keep_41 ?_
    refine T_iadd (pc := 42) C dX6_keep_42 ?_
    refine T_bipush (pc := 43) C dX6_keep_43 (by decide) ?_
    refine T_guard (fun g16 => ?_)
    refine T_czSip (pc := 45) zk.1 hZ C [vi ((s14 r0 2) + 1), vi 8] [.ref (ad r0)] (fun o h9 hw => ct_J9_min_7cf53 zk s14 ((s14 r0 2) + 1) 8 g16 (rngL rfl) hw o h9) kc_278 cm_J9_min_7cf53 rfl rfl (Nat.le_of_ble_eq_true rfl) (by decide) (a' := 0) (b' := 0) ⟨rfl, rfl⟩ dX6_keep_45 (fun v17 hv17 => ?_)
    refine Tc_put (pc := 48) C (ty := .int) r0 6 2 3 k0 (by decide) (fun _ => rfl) rfl inX6 (by decide) (fun _ => rfl) hv17.1 tyX6 tyX6_ok nmX6 rfl (Nat.le_of_ble_eq_true rfl) kc_277 rfl (nar_I _) (fit_I _) dX6_keep_48 ?_
    refine T_blS (fun s18 => ?_)
    exact T_vret (pc := 51) s18 (fun h9 => h9) (by decide) dX6_keep_51

abbrev rm_X6_bringBack : Room := ⟨3, 0, 0, 107⟩
theorem cm_X6_bringBack : cmV yX6_bringBack cX6_bringBack 2 none 1 := ⟨kc_23, kc_279, ⟨by decide +kernel, by decide +kernel, by decide +kernel⟩, kc_282, kc_283⟩
def f_X6_bringBack (N : Nat) (σ : Sm) (r0 : Nat) (r1 : Nat) : Option Sm :=
  (if (σ r0 1) = 0 then bl (upm σ r0 1 7) fun s13 => if 0 ≤ (s13 r0 1) ∧ (s13 r0 1) < 8 then (f_X8_copyFrom N s13 r1 (102 + 33 * (s13 r0 1).toNat)).bind fun s17 => if rng ((s17 r0 2) - 1) then bl (upm s17 r0 2 ((s17 r0 2) - 1)) fun s20 => some s20 else none else none else if rng ((σ r0 1) - 1) then bl (upm σ r0 1 ((σ r0 1) - 1)) fun s5 => if 0 ≤ (s5 r0 1) ∧ (s5 r0 1) < 8 then (f_X8_copyFrom N s5 r1 (102 + 33 * (s5 r0 1).toNat)).bind fun s9 => if rng ((s9 r0 2) - 1) then bl (upm s9 r0 2 ((s9 r0 2) - 1)) fun s12 => some s12 else none else none else none)
theorem ct_X6_bringBack {l : Launch} {cy : Nat → ClassId} {ad : Nat → Nat} {E : Nat → Nat → Nat} {G : va_G} {Z : vZ} (zk : Zk Z E) (N : Nat) (σ : Sm) (r0 : Nat) (r1 : Nat) (k0 : kd r0 = 6) (k1 : kd r1 = 8) (hw : wfc σ) (o : Sm) (h : f_X6_bringBack N σ r0 r1 = some o) : CzV Z l yX6_bringBack cX6_bringBack 2 rm_X6_bringBack (wlc cy ad E) wfc G (tyc cy) [.ref (ad r0), .ref (ad r1)] σ o := by
  refine czV_of zk.1 (plainFor_of_name (by decide)) (Nat.le_of_ble_eq_true rfl) hw o o h (fun X Y w => EndV X Y cX6_bringBack rm_X6_bringBack w) (fun _ _ h => h) (fun X A Q hZ hX C => ?_)
  replace C : Cx X (Yc cy ad E G A 2 Q) cX6_bringBack RX6 none rm_X6_bringBack (tyc cy) := C
  replace hZ : Zx Z X (Yc cy ad E G A 2 Q) := hZ
  show T X (Yc cy ad E G A 2 Q) (fun w => EndV X (Yc cy ad E G A 2 Q) cX6_bringBack rm_X6_bringBack w) 0 0 0 [(0, .ref (ad r0)), (1, .ref (ad r1))] [] σ (f_X6_bringBack N σ r0 r1)
  unfold f_X6_bringBack
  refine T_aload_n (pc := 0) C dX6_bringBack_0 rfl 0 rfl ?_
  refine T_aload_n (pc := 1) C dX6_bringBack_1 rfl 0 rfl ?_
  refine Tc_geti (pc := 2) C r0 6 1 3 k0 (by decide) (fun _ => rfl) rfl inX6 (by decide) rfl kc_275 dX6_bringBack_2 (fun z1 => ?_)
  refine T_if_ne (pc := 5) C 13 dX6_bringBack_5 rfl z1 (fun c2 => ?_) (fun c2 => ?_)
  · refine T_aload_n (pc := 13) C dX6_bringBack_13 rfl 0 rfl ?_
    refine Tc_geti (pc := 14) C r0 6 1 3 k0 (by decide) (fun _ => rfl) rfl inX6 (by decide) rfl kc_275 dX6_bringBack_14 (fun z3 => ?_)
    refine T_iconst (pc := 17) C dX6_bringBack_17 ?_
    refine T_isub (pc := 18) C dX6_bringBack_18 ?_
    refine T_guard (fun g4 => ?_)
    refine Tc_put (pc := 19) C (ty := .int) r0 6 1 3 k0 (by decide) (fun _ => rfl) rfl inX6 (by decide) (fun _ => rfl) g4 tyX6 tyX6_ok nmX6 rfl (Nat.le_of_ble_eq_true rfl) kc_275 rfl (nar_I _) (fit_I _) dX6_bringBack_19 ?_
    refine T_blS (fun s5 => ?_)
    refine T_aload_n (pc := 22) C dX6_bringBack_22 rfl 1 rfl ?_
    refine T_aload_n (pc := 23) C dX6_bringBack_23 rfl 0 rfl ?_
    refine Tc_getr (pc := 24) C r0 6 0 3 k0 (by decide) (fun _ => rfl) rfl inX6 (by decide) (v := .ref (ad (r0 + 1))) rfl kc_274 dX6_bringBack_24 ?_
    refine T_aload_n (pc := 27) C dX6_bringBack_27 rfl 0 rfl ?_
    refine Tc_geti (pc := 28) C r0 6 1 3 k0 (by decide) (fun _ => rfl) rfl inX6 (by decide) rfl kc_275 dX6_bringBack_28 (fun z6 => ?_)
    refine T_guard (fun g7 => ?_)
    refine Tc_ald29 (pc := 31) C (r0 + 1) (kd_6 k0) g7 dX6_bringBack_31 (fun y8 => ?_)
    refine T_czVv (pc := 32) zk.1 hZ C [.ref (ad (102 + 33 * (s5 r0 1).toNat))] [] (fun o h9 hw => ct_X8_copyFrom zk N s5 r1 (102 + 33 * (s5 r0 1).toNat) k1 y8 hw o h9) kc_276 cm_X8_copyFrom (rcc k1 (by decide) (fun _ => rfl) rfl) rfl rfl (Nat.le_of_ble_eq_true rfl) (by decide) (a' := 0) (b' := 0) ⟨rfl, rfl⟩ dX6_bringBack_32 (fun s9 => ?_)
    refine T_aload_n (pc := 35) C dX6_bringBack_35 rfl 0 rfl ?_
    refine T_dup (pc := 36) C dX6_bringBack_36 rfl ?_
    refine Tc_geti (pc := 37) C r0 6 2 3 k0 (by decide) (fun _ => rfl) rfl inX6 (by decide) rfl kc_277 dX6_bringBack_37 (fun z10 => ?_)
    refine T_iconst (pc := 40) C dX6_bringBack_40 ?_
    refine T_isub (pc := 41) C dX6_bringBack_41 ?_
    refine T_guard (fun g11 => ?_)
    refine Tc_put (pc := 42) C (ty := .int) r0 6 2 3 k0 (by decide) (fun _ => rfl) rfl inX6 (by decide) (fun _ => rfl) g11 tyX6 tyX6_ok nmX6 rfl (Nat.le_of_ble_eq_true rfl) kc_277 rfl (nar_I _) (fit_I _) dX6_bringBack_42 ?_
    refine T_blS (fun s12 => ?_)
    exact T_vret (pc := 45) s12 (fun h9 => h9) (by decide) dX6_bringBack_45
  · refine T_bipush (pc := 8) C dX6_bringBack_8 (by decide) ?_
    refine T_goto (pc := 10) C 19 dX6_bringBack_10 rfl ?_
    refine Tc_put (pc := 19) C (ty := .int) r0 6 1 3 k0 (by decide) (fun _ => rfl) rfl inX6 (by decide) (fun _ => rfl) (rngL rfl) tyX6 tyX6_ok nmX6 rfl (Nat.le_of_ble_eq_true rfl) kc_275 rfl (nar_I _) (fit_I _) dX6_bringBack_19 ?_
    refine T_blS (fun s13 => ?_)
    refine T_aload_n (pc := 22) C dX6_bringBack_22 rfl 1 rfl ?_
    refine T_aload_n (pc := 23) C dX6_bringBack_23 rfl 0 rfl ?_
    refine Tc_getr (pc := 24) C r0 6 0 3 k0 (by decide) (fun _ => rfl) rfl inX6 (by decide) (v := .ref (ad (r0 + 1))) rfl kc_274 dX6_bringBack_24 ?_
    refine T_aload_n (pc := 27) C dX6_bringBack_27 rfl 0 rfl ?_
    refine Tc_geti (pc := 28) C r0 6 1 3 k0 (by decide) (fun _ => rfl) rfl inX6 (by decide) rfl kc_275 dX6_bringBack_28 (fun z14 => ?_)
    refine T_guard (fun g15 => ?_)
    refine Tc_ald29 (pc := 31) C (r0 + 1) (kd_6 k0) g15 dX6_bringBack_31 (fun y16 => ?_)
    refine T_czVv (pc := 32) zk.1 hZ C [.ref (ad (102 + 33 * (s13 r0 1).toNat))] [] (fun o h9 hw => ct_X8_copyFrom zk N s13 r1 (102 + 33 * (s13 r0 1).toNat) k1 y16 hw o h9) kc_276 cm_X8_copyFrom (rcc k1 (by decide) (fun _ => rfl) rfl) rfl rfl (Nat.le_of_ble_eq_true rfl) (by decide) (a' := 0) (b' := 0) ⟨rfl, rfl⟩ dX6_bringBack_32 (fun s17 => ?_)
    refine T_aload_n (pc := 35) C dX6_bringBack_35 rfl 0 rfl ?_
    refine T_dup (pc := 36) C dX6_bringBack_36 rfl ?_
    refine Tc_geti (pc := 37) C r0 6 2 3 k0 (by decide) (fun _ => rfl) rfl inX6 (by decide) rfl kc_277 dX6_bringBack_37 (fun z18 => ?_)
    refine T_iconst (pc := 40) C dX6_bringBack_40 ?_
    refine T_isub (pc := 41) C dX6_bringBack_41 ?_
    refine T_guard (fun g19 => ?_)
    refine Tc_put (pc := 42) C (ty := .int) r0 6 2 3 k0 (by decide) (fun _ => rfl) rfl inX6 (by decide) (fun _ => rfl) g19 tyX6 tyX6_ok nmX6 rfl (Nat.le_of_ble_eq_true rfl) kc_277 rfl (nar_I _) (fit_I _) dX6_bringBack_42 ?_
    refine T_blS (fun s20 => ?_)
    exact T_vret (pc := 45) s20 (fun h9 => h9) (by decide) dX6_bringBack_45

abbrev rm_X7_begin : Room := ⟨0, 0, 0, 0⟩
theorem cm_X7_begin : cmV yX7_begin cX7_begin 5 none 4 := ⟨kc_25, kc_110, ⟨by decide +kernel, by decide +kernel, by decide +kernel⟩, kc_284, kc_285⟩
def f_X7_begin (σ : Sm) (r0 : Nat) (x1 : Int) (x2 : Int) (x3 : Int) (x4 : Int) : Option Sm :=
  bl (upm σ r0 0 x1) fun s1 => bl (upm s1 r0 1 x2) fun s2 => bl (upm s2 r0 2 x3) fun s3 => bl (upm s3 r0 3 0) fun s4 => bl (upm s4 r0 4 x4) fun s5 => bl (upm s5 r0 5 0) fun s6 => bl (upm s6 r0 6 0) fun s7 => some s7
theorem ct_X7_begin {l : Launch} {cy : Nat → ClassId} {ad : Nat → Nat} {E : Nat → Nat → Nat} {G : va_G} {Z : vZ} (zk : Zk Z E) (σ : Sm) (r0 : Nat) (x1 : Int) (x2 : Int) (x3 : Int) (x4 : Int) (k0 : kd r0 = 7) (h1 : rng x1) (h2 : rng x2) (h3 : rng x3) (h4 : rng x4) (hw : wfc σ) (o : Sm) (h : f_X7_begin σ r0 x1 x2 x3 x4 = some o) : CzV Z l yX7_begin cX7_begin 5 rm_X7_begin (wlc cy ad E) wfc G (tyc cy) [.ref (ad r0), vi x1, vi x2, vi x3, vi x4] σ o := by
  refine czV_of zk.1 (plainFor_of_name (by decide)) (Nat.le_of_ble_eq_true rfl) hw o o h (fun X Y w => EndV X Y cX7_begin rm_X7_begin w) (fun _ _ h => h) (fun X A Q hZ hX C => ?_)
  replace C : Cx X (Yc cy ad E G A 5 Q) cX7_begin RX7 none rm_X7_begin (tyc cy) := C
  replace hZ : Zx Z X (Yc cy ad E G A 5 Q) := hZ
  show T X (Yc cy ad E G A 5 Q) (fun w => EndV X (Yc cy ad E G A 5 Q) cX7_begin rm_X7_begin w) 0 0 0 [(0, .ref (ad r0)), (1, vi x1), (2, vi x2), (3, vi x3), (4, vi x4)] [] σ (f_X7_begin σ r0 x1 x2 x3 x4)
  unfold f_X7_begin
  refine T_aload_n (pc := 0) C dX7_begin_0 rfl 0 rfl ?_
  refine T_iload_n (pc := 1) C dX7_begin_1 rfl 1 rfl ?_
  refine Tc_put (pc := 2) C (ty := .int) r0 7 0 8 k0 (by decide) (fun _ => rfl) rfl inX7 (by decide) (fun _ => rfl) ⟨h1, fun e9 => absurd e9 (by decide)⟩ tyX7 tyX7_ok nmX7 rfl (Nat.le_of_ble_eq_true rfl) kc_115 rfl (nar_I _) (fit_I _) dX7_begin_2 ?_
  refine T_blS (fun s1 => ?_)
  refine T_aload_n (pc := 5) C dX7_begin_5 rfl 0 rfl ?_
  refine T_iload_n (pc := 6) C dX7_begin_6 rfl 2 rfl ?_
  refine Tc_put (pc := 7) C (ty := .int) r0 7 1 8 k0 (by decide) (fun _ => rfl) rfl inX7 (by decide) (fun _ => rfl) ⟨h2, fun e9 => absurd e9 (by decide)⟩ tyX7 tyX7_ok nmX7 rfl (Nat.le_of_ble_eq_true rfl) kc_113 rfl (nar_I _) (fit_I _) dX7_begin_7 ?_
  refine T_blS (fun s2 => ?_)
  refine T_aload_n (pc := 10) C dX7_begin_10 rfl 0 rfl ?_
  refine T_iload_n (pc := 11) C dX7_begin_11 rfl 3 rfl ?_
  refine Tc_put (pc := 12) C (ty := .int) r0 7 2 8 k0 (by decide) (fun _ => rfl) rfl inX7 (by decide) (fun _ => rfl) ⟨h3, fun e9 => absurd e9 (by decide)⟩ tyX7 tyX7_ok nmX7 rfl (Nat.le_of_ble_eq_true rfl) kc_108 rfl (nar_I _) (fit_I _) dX7_begin_12 ?_
  refine T_blS (fun s3 => ?_)
  refine T_aload_n (pc := 15) C dX7_begin_15 rfl 0 rfl ?_
  refine T_iconst (pc := 16) C dX7_begin_16 ?_
  refine Tc_put (pc := 17) C (ty := .int) r0 7 3 8 k0 (by decide) (fun _ => rfl) rfl inX7 (by decide) (fun _ => rfl) ⟨(rngL rfl), fun e9 => absurd e9 (by decide)⟩ tyX7 tyX7_ok nmX7 rfl (Nat.le_of_ble_eq_true rfl) kc_109 rfl (nar_I _) (fit_I _) dX7_begin_17 ?_
  refine T_blS (fun s4 => ?_)
  refine T_aload_n (pc := 20) C dX7_begin_20 rfl 0 rfl ?_
  refine T_iload (pc := 21) C dX7_begin_21 4 rfl ?_
  refine Tc_put (pc := 23) C (ty := .int) r0 7 4 8 k0 (by decide) (fun _ => rfl) rfl inX7 (by decide) (fun _ => rfl) ⟨h4, fun e9 => absurd e9 (by decide)⟩ tyX7 tyX7_ok nmX7 rfl (Nat.le_of_ble_eq_true rfl) kc_254 rfl (nar_I _) (fit_I _) dX7_begin_23 ?_
  refine T_blS (fun s5 => ?_)
  refine T_aload_n (pc := 26) C dX7_begin_26 rfl 0 rfl ?_
  refine T_iconst (pc := 27) C dX7_begin_27 ?_
  refine Tc_put (pc := 28) C (ty := .boolean) r0 7 5 8 k0 (by decide) (fun _ => rfl) rfl inX7 (by decide) (fun _ => rfl) ⟨bit_rng (Or.inl rfl), fun _ => (Or.inl rfl)⟩ tyX7 tyX7_ok nmX7 rfl (Nat.le_of_ble_eq_true rfl) kc_134 rfl (nar_Z (Or.inl rfl)) (fit_Z (Or.inl rfl)) dX7_begin_28 ?_
  refine T_blS (fun s6 => ?_)
  refine T_aload_n (pc := 31) C dX7_begin_31 rfl 0 rfl ?_
  refine T_iconst (pc := 32) C dX7_begin_32 ?_
  refine Tc_put (pc := 33) C (ty := .int) r0 7 6 8 k0 (by decide) (fun _ => rfl) rfl inX7 (by decide) (fun _ => rfl) ⟨(rngL rfl), fun e9 => absurd e9 (by decide)⟩ tyX7 tyX7_ok nmX7 rfl (Nat.le_of_ble_eq_true rfl) kc_118 rfl (nar_I _) (fit_I _) dX7_begin_33 ?_
  refine T_blS (fun s7 => ?_)
  exact T_vret (pc := 36) s7 (fun h9 => h9) (by decide) dX7_begin_36

abbrev rm_X7_append : Room := ⟨0, 0, 0, 0⟩
theorem cm_X7_append : cmV yX7_append cX7_append 2 (some .int) 1 := ⟨kc_26, kc_110, ⟨by decide +kernel, by decide +kernel, by decide +kernel⟩, kc_286, kc_287⟩
def f_X7_append (σ : Sm) (r0 : Nat) (x1 : Int) : Option (Sm × Int) :=
  (if 6 ≤ (σ r0 6) then some (σ, (σ r0 6)) else if 0 ≤ (σ r0 6) ∧ (σ r0 6) < 6 then bl (upm σ (r0 + 1) (σ r0 6).toNat x1) fun s6 => if rng ((s6 r0 6) + 1) then bl (upm s6 r0 6 ((s6 r0 6) + 1)) fun s9 => some (s9, (s9 r0 6)) else none else none)
theorem ct_X7_append {l : Launch} {cy : Nat → ClassId} {ad : Nat → Nat} {E : Nat → Nat → Nat} {G : va_G} {Z : vZ} (zk : Zk Z E) (σ : Sm) (r0 : Nat) (x1 : Int) (k0 : kd r0 = 7) (h1 : rng x1) (hw : wfc σ) (o : Sm × Int) (h : f_X7_append σ r0 x1 = some o) : CzI Z l yX7_append cX7_append 2 (some .int) rm_X7_append (wlc cy ad E) wfc G (tyc cy) [.ref (ad r0), vi x1] σ o.1 o.2 := by
  refine czI_of zk.1 (plainFor_of_name (by decide)) (Nat.le_of_ble_eq_true rfl) hw o o h (fun X Y w => EndI X Y cX7_append rm_X7_append .int w) (fun _ _ h => h) (fun X A Q hZ hX C => ?_)
  replace C : Cx X (Yc cy ad E G A 2 Q) cX7_append RX7 (some .int) rm_X7_append (tyc cy) := C
  replace hZ : Zx Z X (Yc cy ad E G A 2 Q) := hZ
  show T X (Yc cy ad E G A 2 Q) (fun w => EndI X (Yc cy ad E G A 2 Q) cX7_append rm_X7_append .int w) 0 0 0 [(0, .ref (ad r0)), (1, vi x1)] [] σ (f_X7_append σ r0 x1)
  unfold f_X7_append
  refine T_aload_n (pc := 0) C dX7_append_0 rfl 0 rfl ?_
  refine Tc_geti (pc := 1) C r0 7 6 8 k0 (by decide) (fun _ => rfl) rfl inX7 (by decide) rfl kc_118 dX7_append_1 (fun z1 => ?_)
  refine T_bipush (pc := 4) C dX7_append_4 (by decide) ?_
  refine T_icmp_ge (pc := 6) C 29 dX7_append_6 rfl z1.1 (rngL rfl) (fun c2 => ?_) (fun c2 => ?_)
  · refine T_aload_n (pc := 29) C dX7_append_29 rfl 0 rfl ?_
    refine Tc_geti (pc := 30) C r0 7 6 8 k0 (by decide) (fun _ => rfl) rfl inX7 (by decide) rfl kc_118 dX7_append_30 (fun z3 => ?_)
    exact T_iret (pc := 33) (σ, (σ r0 6)) (fun h9 => h9) z3.1 (nar_I _) (by decide) dX7_append_33
  · refine T_aload_n (pc := 9) C dX7_append_9 rfl 0 rfl ?_
    refine Tc_getr (pc := 10) C r0 7 7 8 k0 (by decide) (fun _ => rfl) rfl inX7 (by decide) (v := .ref (ad (r0 + 1))) rfl kc_119 dX7_append_10 ?_
    refine T_aload_n (pc := 13) C dX7_append_13 rfl 0 rfl ?_
    refine Tc_geti (pc := 14) C r0 7 6 8 k0 (by decide) (fun _ => rfl) rfl inX7 (by decide) rfl kc_118 dX7_append_14 (fun z4 => ?_)
    refine T_iload_n (pc := 17) C dX7_append_17 rfl 1 rfl ?_
    refine T_guard (fun g5 => ?_)
    refine Tc_iast (pc := 18) C (r0 + 1) 22 6 (σ r0 6).toNat (kd_7 k0) ⟨by decide, by decide⟩ rfl g5 rfl h1 dX7_append_18 ?_
    refine T_blS (fun s6 => ?_)
    refine T_aload_n (pc := 19) C dX7_append_19 rfl 0 rfl ?_
    refine T_dup (pc := 20) C dX7_append_20 rfl ?_
    refine Tc_geti (pc := 21) C r0 7 6 8 k0 (by decide) (fun _ => rfl) rfl inX7 (by decide) rfl kc_118 dX7_append_21 (fun z7 => ?_)
    refine T_iconst (pc := 24) C dX7_append_24 ?_
    refine T_iadd (pc := 25) C dX7_append_25 ?_
    refine T_guard (fun g8 => ?_)
    refine Tc_put (pc := 26) C (ty := .int) r0 7 6 8 k0 (by decide) (fun _ => rfl) rfl inX7 (by decide) (fun _ => rfl) ⟨g8, fun e9 => absurd e9 (by decide)⟩ tyX7 tyX7_ok nmX7 rfl (Nat.le_of_ble_eq_true rfl) kc_118 rfl (nar_I _) (fit_I _) dX7_append_26 ?_
    refine T_blS (fun s9 => ?_)
    refine T_aload_n (pc := 29) C dX7_append_29 rfl 0 rfl ?_
    refine Tc_geti (pc := 30) C r0 7 6 8 k0 (by decide) (fun _ => rfl) rfl inX7 (by decide) rfl kc_118 dX7_append_30 (fun z10 => ?_)
    exact T_iret (pc := 33) (s9, (s9 r0 6)) (fun h9 => h9) z10.1 (nar_I _) (by decide) dX7_append_33

abbrev rm_X7_dropLast : Room := ⟨0, 0, 0, 0⟩
theorem cm_X7_dropLast : cmV yX7_dropLast cX7_dropLast 1 (some .int) 0 := ⟨kc_27, kc_110, ⟨by decide +kernel, by decide +kernel, by decide +kernel⟩, kc_288, kc_289⟩
def f_X7_dropLast (σ : Sm) (r0 : Nat) : Option (Sm × Int) :=
  (if (σ r0 6) = 0 then some (σ, (-1)) else if rng ((σ r0 6) - 1) then bl (upm σ r0 6 ((σ r0 6) - 1)) fun s5 => if 0 ≤ (s5 r0 6) ∧ (s5 r0 6) < 6 then some (s5, (s5 (r0 + 1) (s5 r0 6).toNat)) else none else none)
theorem ct_X7_dropLast {l : Launch} {cy : Nat → ClassId} {ad : Nat → Nat} {E : Nat → Nat → Nat} {G : va_G} {Z : vZ} (zk : Zk Z E) (σ : Sm) (r0 : Nat) (k0 : kd r0 = 7) (hw : wfc σ) (o : Sm × Int) (h : f_X7_dropLast σ r0 = some o) : CzI Z l yX7_dropLast cX7_dropLast 1 (some .int) rm_X7_dropLast (wlc cy ad E) wfc G (tyc cy) [.ref (ad r0)] σ o.1 o.2 := by
  refine czI_of zk.1 (plainFor_of_name (by decide)) (Nat.le_of_ble_eq_true rfl) hw o o h (fun X Y w => EndI X Y cX7_dropLast rm_X7_dropLast .int w) (fun _ _ h => h) (fun X A Q hZ hX C => ?_)
  replace C : Cx X (Yc cy ad E G A 1 Q) cX7_dropLast RX7 (some .int) rm_X7_dropLast (tyc cy) := C
  replace hZ : Zx Z X (Yc cy ad E G A 1 Q) := hZ
  show T X (Yc cy ad E G A 1 Q) (fun w => EndI X (Yc cy ad E G A 1 Q) cX7_dropLast rm_X7_dropLast .int w) 0 0 0 [(0, .ref (ad r0))] [] σ (f_X7_dropLast σ r0)
  unfold f_X7_dropLast
  refine T_aload_n (pc := 0) C dX7_dropLast_0 rfl 0 rfl ?_
  refine Tc_geti (pc := 1) C r0 7 6 8 k0 (by decide) (fun _ => rfl) rfl inX7 (by decide) rfl kc_118 dX7_dropLast_1 (fun z1 => ?_)
  refine T_if_ne (pc := 4) C 9 dX7_dropLast_4 rfl z1.1 (fun c2 => ?_) (fun c2 => ?_)
  · refine T_aload_n (pc := 9) C dX7_dropLast_9 rfl 0 rfl ?_
    refine T_dup (pc := 10) C dX7_dropLast_10 rfl ?_
    refine Tc_geti (pc := 11) C r0 7 6 8 k0 (by decide) (fun _ => rfl) rfl inX7 (by decide) rfl kc_118 dX7_dropLast_11 (fun z3 => ?_)
    refine T_iconst (pc := 14) C dX7_dropLast_14 ?_
    refine T_isub (pc := 15) C dX7_dropLast_15 ?_
    refine T_guard (fun g4 => ?_)
    refine Tc_put (pc := 16) C (ty := .int) r0 7 6 8 k0 (by decide) (fun _ => rfl) rfl inX7 (by decide) (fun _ => rfl) ⟨g4, fun e9 => absurd e9 (by decide)⟩ tyX7 tyX7_ok nmX7 rfl (Nat.le_of_ble_eq_true rfl) kc_118 rfl (nar_I _) (fit_I _) dX7_dropLast_16 ?_
    refine T_blS (fun s5 => ?_)
    refine T_aload_n (pc := 19) C dX7_dropLast_19 rfl 0 rfl ?_
    refine Tc_getr (pc := 20) C r0 7 7 8 k0 (by decide) (fun _ => rfl) rfl inX7 (by decide) (v := .ref (ad (r0 + 1))) rfl kc_119 dX7_dropLast_20 ?_
    refine T_aload_n (pc := 23) C dX7_dropLast_23 rfl 0 rfl ?_
    refine Tc_geti (pc := 24) C r0 7 6 8 k0 (by decide) (fun _ => rfl) rfl inX7 (by decide) rfl kc_118 dX7_dropLast_24 (fun z6 => ?_)
    refine T_guard (fun g7 => ?_)
    refine Tc_iald (pc := 27) C (r0 + 1) 22 6 (s5 r0 6).toNat (kd_7 k0) ⟨by decide, by decide⟩ rfl g7 rfl dX7_dropLast_27 (fun z8 => ?_)
    exact T_iret (pc := 28) (s5, (s5 (r0 + 1) (s5 r0 6).toNat)) (fun h9 => h9) z8 (nar_I _) (by decide) dX7_dropLast_28
  · refine T_iconst (pc := 7) C dX7_dropLast_7 ?_
    exact T_iret (pc := 8) (σ, (-1)) (fun h9 => h9) (rngL rfl) (nar_I _) (by decide) dX7_dropLast_8

abbrev rm_X7_hasPosition : Room := ⟨0, 0, 0, 0⟩
theorem cm_X7_hasPosition : cmV yX7_hasPosition cX7_hasPosition 2 (some .boolean) 1 := ⟨kc_29, kc_110, ⟨by decide +kernel, by decide +kernel, by decide +kernel⟩, kc_290, kc_291⟩
def f_X7_hasPosition (σ : Sm) (r0 : Nat) (x1 : Int) : Option Int :=
  (if x1 < 0 then some 0 else (if (σ r0 6) < x1 then some 0 else some 1))
theorem ct_X7_hasPosition {l : Launch} {cy : Nat → ClassId} {ad : Nat → Nat} {E : Nat → Nat → Nat} {G : va_G} {Z : vZ} (zk : Zk Z E) (σ : Sm) (r0 : Nat) (x1 : Int) (k0 : kd r0 = 7) (h1 : rng x1) (hw : wfc σ) (o : Int) (h : f_X7_hasPosition σ r0 x1 = some o) : CzI Z l yX7_hasPosition cX7_hasPosition 2 (some .boolean) rm_X7_hasPosition (wlc cy ad E) wfc G (tyc cy) [.ref (ad r0), vi x1] σ σ o := by
  refine czI_of zk.1 (plainFor_of_name (by decide)) (Nat.le_of_ble_eq_true rfl) hw (σ, o) o h (fun X Y v => EndI X Y cX7_hasPosition rm_X7_hasPosition .boolean (σ, v)) (fun _ _ h => h) (fun X A Q hZ hX C => ?_)
  replace C : Cx X (Yc cy ad E G A 2 Q) cX7_hasPosition RX7 (some .boolean) rm_X7_hasPosition (tyc cy) := C
  replace hZ : Zx Z X (Yc cy ad E G A 2 Q) := hZ
  show T X (Yc cy ad E G A 2 Q) (fun v => EndI X (Yc cy ad E G A 2 Q) cX7_hasPosition rm_X7_hasPosition .boolean (σ, v)) 0 0 0 [(0, .ref (ad r0)), (1, vi x1)] [] σ (f_X7_hasPosition σ r0 x1)
  unfold f_X7_hasPosition
  refine T_iload_n (pc := 0) C dX7_hasPosition_0 rfl 1 rfl ?_
  refine T_if_lt (pc := 1) C 16 dX7_hasPosition_1 rfl h1 (fun c1 => ?_) (fun c1 => ?_)
  · refine T_iconst (pc := 16) C dX7_hasPosition_16 ?_
    exact T_iret (pc := 17) 0 (fun h9 => h9) (rngL rfl) (nar_Z (Or.inl rfl)) (by decide) dX7_hasPosition_17
  · refine T_iload_n (pc := 4) C dX7_hasPosition_4 rfl 1 rfl ?_
    refine T_aload_n (pc := 5) C dX7_hasPosition_5 rfl 0 rfl ?_
    refine Tc_geti (pc := 6) C r0 7 6 8 k0 (by decide) (fun _ => rfl) rfl inX7 (by decide) rfl kc_118 dX7_hasPosition_6 (fun z2 => ?_)
    refine T_icmp_gt (pc := 9) C 16 dX7_hasPosition_9 rfl h1 z2.1 (fun c3 => ?_) (fun c3 => ?_)
    · refine T_iconst (pc := 16) C dX7_hasPosition_16 ?_
      exact T_iret (pc := 17) 0 (fun h9 => h9) (rngL rfl) (nar_Z (Or.inl rfl)) (by decide) dX7_hasPosition_17
    · refine T_iconst (pc := 12) C dX7_hasPosition_12 ?_
      refine T_goto (pc := 13) C 17 dX7_hasPosition_13 rfl ?_
      exact T_iret (pc := 17) 1 (fun h9 => h9) (rngL rfl) (nar_Z (Or.inr rfl)) (by decide) dX7_hasPosition_17

abbrev rm_X7_firstTripTried : Room := ⟨2, 0, 0, 44⟩
theorem cm_X7_firstTripTried : cmV yX7_firstTripTried cX7_firstTripTried 6 (some .int) 3 := ⟨kc_35, kc_110, ⟨by decide +kernel, by decide +kernel, by decide +kernel⟩, kc_293, kc_294⟩
def f_X7_firstTripTried_8 (σ : Sm) (r0 : Nat) (x1 : Int) (x2 : Int) (x3 : Int) : Nat → Int → Int → Option (Int)
  | 0, _, _ => none
  | n + 1, x4, x5 => (if x5 < 1 then some x4 else if rng ((x4 + x5) - 1) then (f_X7_whenAt σ r0 ((x4 + x5) - 1) x1 x3).bind fun v13 => (if x2 ≤ v13 then if 0 ≤ x5 then bl (x5 / 2) fun v16 => f_X7_firstTripTried_8 σ r0 x1 x2 x3 n x4 v16 else none else bl (x4 + x5) fun v17 => if 0 ≤ x5 then bl (x5 / 2) fun v19 => if rng v17 then f_X7_firstTripTried_8 σ r0 x1 x2 x3 n v17 v19 else none else none) else none)
theorem lp_X7_firstTripTried_8 {X : vjX} {A : Nat → Prop} {Q : State → Prop} {cy : Nat → ClassId} {ad : Nat → Nat} {E : Nat → Nat → Nat} {G : va_G} {Z : vZ} (zk : Zk Z E) (hZ : Zx Z X (Yc cy ad E G A 6 Q)) (C : Cx X (Yc cy ad E G A 6 Q) cX7_firstTripTried RX7 (some .int) rm_X7_firstTripTried (tyc cy)) (σ : Sm) (r0 : Nat) (k0 : kd r0 = 7) (x1 : Int) (x2 : Int) (x3 : Int) (h1 : rng x1) (h2 : rng x2) (h3 : bit x3) : ∀ (n : Nat) (x4 : Int) (x5 : Int) (h4 : rng x4) (h5 : rng x5), T X (Yc cy ad E G A 6 Q) (fun (q : Int) => rng q → J X (Yc cy ad E G A 6 Q) 0 0 47 [(4, vi q)] [] σ) 0 0 8 [(0, .ref (ad r0)), (1, vi x1), (2, vi x2), (3, vi x3), (4, vi x4), (5, vi x5)] [] σ (f_X7_firstTripTried_8 σ r0 x1 x2 x3 n x4 x5) := by
  intro n
  induction n with
  | zero => intro x4 x5 h4 h5; exact T_none
  | succ n ih =>
    intro x4 x5 h4 h5
    rw [f_X7_firstTripTried_8]
    refine T_iload (pc := 8) C dX7_firstTripTried_8 5 rfl ?_
    refine T_iconst (pc := 10) C dX7_firstTripTried_10 ?_
    refine T_icmp_lt (pc := 11) C 47 dX7_firstTripTried_11 rfl h5 (rngL rfl) (fun c11 => ?_) (fun c11 => ?_)
    · refine T_sub (L' := [(4, vi x4)]) [4] rfl ?_
      exact T_exit (fun h9 => h9 h4)
    · refine T_aload_n (pc := 14) C dX7_firstTripTried_14 rfl 0 rfl ?_
      refine T_iload (pc := 15) C dX7_firstTripTried_15 4 rfl ?_
      refine T_iload (pc := 17) C dX7_firstTripTried_17 5 rfl ?_
      refine T_iadd (pc := 19) C dX7_firstTripTried_19 ?_
      refine T_iconst (pc := 20) C dX7_firstTripTried_20 ?_
      refine T_isub (pc := 21) C dX7_firstTripTried_21 ?_
      refine T_iload_n (pc := 22) C dX7_firstTripTried_22 rfl 1 rfl ?_
      refine T_iload_n (pc := 23) C dX7_firstTripTried_23 rfl 3 rfl ?_
      refine T_guard (fun g12 => ?_)
      refine T_czVip (pc := 24) zk.1 hZ C [vi ((x4 + x5) - 1), vi x1, vi x3] [] (fun o h9 hw => ct_X7_whenAt zk σ r0 ((x4 + x5) - 1) x1 x3 k0 g12 h1 h3 hw o h9) kc_292 cm_X7_whenAt (rcc k0 (by decide) (fun _ => rfl) rfl) rfl rfl (Nat.le_of_ble_eq_true rfl) (by decide) (a' := 0) (b' := 0) ⟨rfl, rfl⟩ dX7_firstTripTried_24 (fun v13 hv13 => ?_)
      refine T_iload_n (pc := 27) C dX7_firstTripTried_27 rfl 2 rfl ?_
      refine T_icmp_ge (pc := 28) C 38 dX7_firstTripTried_28 rfl hv13.1 h2 (fun c14 => ?_) (fun c14 => ?_)
      · refine T_iload (pc := 38) C dX7_firstTripTried_38 5 rfl ?_
        refine T_iconst (pc := 40) C dX7_firstTripTried_40 ?_
        refine T_guard (fun g15 => ?_)
        refine T_idiv (pc := 41) C dX7_firstTripTried_41 h5 (rngL rfl) ⟨g15, by decide⟩ ?_
        refine T_blV (rng_dv h5 ⟨g15, by decide⟩) (fun v16 hv16 => ?_)
        refine T_istore (pc := 42) (L' := [(5, vi v16), (0, .ref (ad r0)), (1, vi x1), (2, vi x2), (3, vi x3), (4, vi x4)]) C dX7_firstTripTried_42 (Nat.le_of_ble_eq_true rfl) rfl ?_
        refine T_goto (pc := 44) C 8 dX7_firstTripTried_44 rfl ?_
        refine T_sub (L' := [(0, .ref (ad r0)), (1, vi x1), (2, vi x2), (3, vi x3), (4, vi x4), (5, vi v16)]) [1, 2, 3, 4, 5, 0] rfl ?_
        exact ih x4 v16 h4 hv16
      · refine T_iload (pc := 31) C dX7_firstTripTried_31 4 rfl ?_
        refine T_iload (pc := 33) C dX7_firstTripTried_33 5 rfl ?_
        refine T_iadd (pc := 35) C dX7_firstTripTried_35 ?_
        refine T_blN (fun v17 => ?_)
        refine T_istore (pc := 36) (L' := [(4, vi v17), (0, .ref (ad r0)), (1, vi x1), (2, vi x2), (3, vi x3), (5, vi x5)]) C dX7_firstTripTried_36 (Nat.le_of_ble_eq_true rfl) rfl ?_
        refine T_iload (pc := 38) C dX7_firstTripTried_38 5 rfl ?_
        refine T_iconst (pc := 40) C dX7_firstTripTried_40 ?_
        refine T_guard (fun g18 => ?_)
        refine T_idiv (pc := 41) C dX7_firstTripTried_41 h5 (rngL rfl) ⟨g18, by decide⟩ ?_
        refine T_blV (rng_dv h5 ⟨g18, by decide⟩) (fun v19 hv19 => ?_)
        refine T_istore (pc := 42) (L' := [(5, vi v19), (4, vi v17), (0, .ref (ad r0)), (1, vi x1), (2, vi x2), (3, vi x3)]) C dX7_firstTripTried_42 (Nat.le_of_ble_eq_true rfl) rfl ?_
        refine T_goto (pc := 44) C 8 dX7_firstTripTried_44 rfl ?_
        refine T_sub (L' := [(0, .ref (ad r0)), (1, vi x1), (2, vi x2), (3, vi x3), (4, vi v17), (5, vi v19)]) [2, 3, 4, 5, 1, 0] rfl ?_
        refine T_guard (fun g20 => ?_)
        exact ih v17 v19 g20 hv19
def f_X7_firstTripTried (N : Nat) (σ : Sm) (r0 : Nat) (x1 : Int) (x2 : Int) (x3 : Int) : Option Int :=
  (f_X7_firstTripTried_8 σ r0 x1 x2 x3 N 0 8192).bind fun q21 => some q21
theorem ct_X7_firstTripTried {l : Launch} {cy : Nat → ClassId} {ad : Nat → Nat} {E : Nat → Nat → Nat} {G : va_G} {Z : vZ} (zk : Zk Z E) (N : Nat) (σ : Sm) (r0 : Nat) (x1 : Int) (x2 : Int) (x3 : Int) (k0 : kd r0 = 7) (h1 : rng x1) (h2 : rng x2) (h3 : bit x3) (hw : wfc σ) (o : Int) (h : f_X7_firstTripTried N σ r0 x1 x2 x3 = some o) : CzI Z l yX7_firstTripTried cX7_firstTripTried 6 (some .int) rm_X7_firstTripTried (wlc cy ad E) wfc G (tyc cy) [.ref (ad r0), vi x1, vi x2, vi x3] σ σ o := by
  refine czI_of zk.1 (plainFor_of_name (by decide)) (Nat.le_of_ble_eq_true rfl) hw (σ, o) o h (fun X Y v => EndI X Y cX7_firstTripTried rm_X7_firstTripTried .int (σ, v)) (fun _ _ h => h) (fun X A Q hZ hX C => ?_)
  replace C : Cx X (Yc cy ad E G A 6 Q) cX7_firstTripTried RX7 (some .int) rm_X7_firstTripTried (tyc cy) := C
  replace hZ : Zx Z X (Yc cy ad E G A 6 Q) := hZ
  show T X (Yc cy ad E G A 6 Q) (fun v => EndI X (Yc cy ad E G A 6 Q) cX7_firstTripTried rm_X7_firstTripTried .int (σ, v)) 0 0 0 [(0, .ref (ad r0)), (1, vi x1), (2, vi x2), (3, vi x3)] [] σ (f_X7_firstTripTried N σ r0 x1 x2 x3)
  unfold f_X7_firstTripTried
  refine T_iconst (pc := 0) C dX7_firstTripTried_0 ?_
  refine T_istore (pc := 1) (L' := [(4, vi 0), (0, .ref (ad r0)), (1, vi x1), (2, vi x2), (3, vi x3)]) C dX7_firstTripTried_1 (Nat.le_of_ble_eq_true rfl) rfl ?_
  refine T_sipush (pc := 3) C dX7_firstTripTried_3 (by decide) ?_
  refine T_istore (pc := 6) (L' := [(5, vi 8192), (4, vi 0), (0, .ref (ad r0)), (1, vi x1), (2, vi x2), (3, vi x3)]) C dX7_firstTripTried_6 (Nat.le_of_ble_eq_true rfl) rfl ?_
  refine T_sub (L' := [(0, .ref (ad r0)), (1, vi x1), (2, vi x2), (3, vi x3), (4, vi 0), (5, vi 8192)]) [2, 3, 4, 5, 1, 0] rfl ?_
  refine T_loopE (lp_X7_firstTripTried_8 zk hZ C σ r0 k0 x1 x2 x3 h1 h2 h3 N 0 8192 (rngL rfl) (rngL rfl)) (fun q21 hq21 => ?_)
  refine T_iload (pc := 47) C dX7_firstTripTried_47 0 rfl ?_
  exact T_iret (pc := 49) q21 (fun h9 => h9) hq21 (nar_I _) (by decide) dX7_firstTripTried_49

abbrev rm_X8_hasStop : Room := ⟨0, 0, 0, 0⟩
theorem cm_X8_hasStop : cmV yX8_hasStop cX8_hasStop 2 (some .boolean) 1 := ⟨kc_37, kc_147, ⟨by decide +kernel, by decide +kernel, by decide +kernel⟩, kc_295, kc_296⟩
def f_X8_hasStop (σ : Sm) (r0 : Nat) (x1 : Int) : Option Int :=
  (if x1 < 0 then some 0 else (if (σ r0 2) ≤ x1 then some 0 else some 1))
theorem ct_X8_hasStop {l : Launch} {cy : Nat → ClassId} {ad : Nat → Nat} {E : Nat → Nat → Nat} {G : va_G} {Z : vZ} (zk : Zk Z E) (σ : Sm) (r0 : Nat) (x1 : Int) (k0 : kd r0 = 8) (h1 : rng x1) (hw : wfc σ) (o : Int) (h : f_X8_hasStop σ r0 x1 = some o) : CzI Z l yX8_hasStop cX8_hasStop 2 (some .boolean) rm_X8_hasStop (wlc cy ad E) wfc G (tyc cy) [.ref (ad r0), vi x1] σ σ o := by
  refine czI_of zk.1 (plainFor_of_name (by decide)) (Nat.le_of_ble_eq_true rfl) hw (σ, o) o h (fun X Y v => EndI X Y cX8_hasStop rm_X8_hasStop .boolean (σ, v)) (fun _ _ h => h) (fun X A Q hZ hX C => ?_)
  replace C : Cx X (Yc cy ad E G A 2 Q) cX8_hasStop RX8 (some .boolean) rm_X8_hasStop (tyc cy) := C
  replace hZ : Zx Z X (Yc cy ad E G A 2 Q) := hZ
  show T X (Yc cy ad E G A 2 Q) (fun v => EndI X (Yc cy ad E G A 2 Q) cX8_hasStop rm_X8_hasStop .boolean (σ, v)) 0 0 0 [(0, .ref (ad r0)), (1, vi x1)] [] σ (f_X8_hasStop σ r0 x1)
  unfold f_X8_hasStop
  refine T_iload_n (pc := 0) C dX8_hasStop_0 rfl 1 rfl ?_
  refine T_if_lt (pc := 1) C 16 dX8_hasStop_1 rfl h1 (fun c1 => ?_) (fun c1 => ?_)
  · refine T_iconst (pc := 16) C dX8_hasStop_16 ?_
    exact T_iret (pc := 17) 0 (fun h9 => h9) (rngL rfl) (nar_Z (Or.inl rfl)) (by decide) dX8_hasStop_17
  · refine T_iload_n (pc := 4) C dX8_hasStop_4 rfl 1 rfl ?_
    refine T_aload_n (pc := 5) C dX8_hasStop_5 rfl 0 rfl ?_
    refine Tc_geti (pc := 6) C r0 8 2 10 k0 (by decide) (fun _ => rfl) rfl inX8 (by decide) rfl kc_263 dX8_hasStop_6 (fun z2 => ?_)
    refine T_icmp_ge (pc := 9) C 16 dX8_hasStop_9 rfl h1 z2.1 (fun c3 => ?_) (fun c3 => ?_)
    · refine T_iconst (pc := 16) C dX8_hasStop_16 ?_
      exact T_iret (pc := 17) 0 (fun h9 => h9) (rngL rfl) (nar_Z (Or.inl rfl)) (by decide) dX8_hasStop_17
    · refine T_iconst (pc := 12) C dX8_hasStop_12 ?_
      refine T_goto (pc := 13) C 17 dX8_hasStop_13 rfl ?_
      exact T_iret (pc := 17) 1 (fun h9 => h9) (rngL rfl) (nar_Z (Or.inr rfl)) (by decide) dX8_hasStop_17

abbrev rm_X8_hasLine : Room := ⟨0, 0, 0, 0⟩
theorem cm_X8_hasLine : cmV yX8_hasLine cX8_hasLine 2 (some .boolean) 1 := ⟨kc_38, kc_147, ⟨by decide +kernel, by decide +kernel, by decide +kernel⟩, kc_297, kc_298⟩
def f_X8_hasLine (σ : Sm) (r0 : Nat) (x1 : Int) : Option Int :=
  (if x1 < 0 then some 0 else (if (σ r0 7) ≤ x1 then some 0 else some 1))
theorem ct_X8_hasLine {l : Launch} {cy : Nat → ClassId} {ad : Nat → Nat} {E : Nat → Nat → Nat} {G : va_G} {Z : vZ} (zk : Zk Z E) (σ : Sm) (r0 : Nat) (x1 : Int) (k0 : kd r0 = 8) (h1 : rng x1) (hw : wfc σ) (o : Int) (h : f_X8_hasLine σ r0 x1 = some o) : CzI Z l yX8_hasLine cX8_hasLine 2 (some .boolean) rm_X8_hasLine (wlc cy ad E) wfc G (tyc cy) [.ref (ad r0), vi x1] σ σ o := by
  refine czI_of zk.1 (plainFor_of_name (by decide)) (Nat.le_of_ble_eq_true rfl) hw (σ, o) o h (fun X Y v => EndI X Y cX8_hasLine rm_X8_hasLine .boolean (σ, v)) (fun _ _ h => h) (fun X A Q hZ hX C => ?_)
  replace C : Cx X (Yc cy ad E G A 2 Q) cX8_hasLine RX8 (some .boolean) rm_X8_hasLine (tyc cy) := C
  replace hZ : Zx Z X (Yc cy ad E G A 2 Q) := hZ
  show T X (Yc cy ad E G A 2 Q) (fun v => EndI X (Yc cy ad E G A 2 Q) cX8_hasLine rm_X8_hasLine .boolean (σ, v)) 0 0 0 [(0, .ref (ad r0)), (1, vi x1)] [] σ (f_X8_hasLine σ r0 x1)
  unfold f_X8_hasLine
  refine T_iload_n (pc := 0) C dX8_hasLine_0 rfl 1 rfl ?_
  refine T_if_lt (pc := 1) C 16 dX8_hasLine_1 rfl h1 (fun c1 => ?_) (fun c1 => ?_)
  · refine T_iconst (pc := 16) C dX8_hasLine_16 ?_
    exact T_iret (pc := 17) 0 (fun h9 => h9) (rngL rfl) (nar_Z (Or.inl rfl)) (by decide) dX8_hasLine_17
  · refine T_iload_n (pc := 4) C dX8_hasLine_4 rfl 1 rfl ?_
    refine T_aload_n (pc := 5) C dX8_hasLine_5 rfl 0 rfl ?_
    refine Tc_geti (pc := 6) C r0 8 7 10 k0 (by decide) (fun _ => rfl) rfl inX8 (by decide) rfl kc_267 dX8_hasLine_6 (fun z2 => ?_)
    refine T_icmp_ge (pc := 9) C 16 dX8_hasLine_9 rfl h1 z2.1 (fun c3 => ?_) (fun c3 => ?_)
    · refine T_iconst (pc := 16) C dX8_hasLine_16 ?_
      exact T_iret (pc := 17) 0 (fun h9 => h9) (rngL rfl) (nar_Z (Or.inl rfl)) (by decide) dX8_hasLine_17
    · refine T_iconst (pc := 12) C dX8_hasLine_12 ?_
      refine T_goto (pc := 13) C 17 dX8_hasLine_13 rfl ?_
      exact T_iret (pc := 17) 1 (fun h9 => h9) (rngL rfl) (nar_Z (Or.inr rfl)) (by decide) dX8_hasLine_17

abbrev rm_X8_stopIndexFault : Room := ⟨1, 0, 0, 21⟩
theorem cm_X8_stopIndexFault : cmV yX8_stopIndexFault cX8_stopIndexFault 2 (some (.object "RingTransit$Fault")) 1 := ⟨kc_39, kc_147, ⟨by decide +kernel, by decide +kernel, by decide +kernel⟩, kc_302, kc_303⟩
def f_X8_stopIndexFault (σ : Sm) (r0 : Nat) (x1 : Int) : Option Int :=
  (f_X8_hasStop σ r0 x1).bind fun v1 => (if v1 = 0 then some 1 else some 0)
theorem ct_X8_stopIndexFault {l : Launch} {cy : Nat → ClassId} {ad : Nat → Nat} {E : Nat → Nat → Nat} {G : va_G} {Z : vZ} (zk : Zk Z E) (σ : Sm) (r0 : Nat) (x1 : Int) (k0 : kd r0 = 8) (h1 : rng x1) (hw : wfc σ) (o : Int) (h : f_X8_stopIndexFault σ r0 x1 = some o) : CzE Z E 0 6 l yX8_stopIndexFault cX8_stopIndexFault 2 (some (.object "RingTransit$Fault")) rm_X8_stopIndexFault (wlc cy ad E) wfc G (tyc cy) [.ref (ad r0), vi x1] σ σ o := by
  refine czE_of zk.1 (plainFor_of_name (by decide)) (Nat.le_of_ble_eq_true rfl) hw (σ, o) o h (fun X Y v => EndE E 0 6 X Y cX8_stopIndexFault rm_X8_stopIndexFault (σ, v)) (fun _ _ h => h) (fun X A Q hZ hX C => ?_)
  replace C : Cx X (Yc cy ad E G A 2 Q) cX8_stopIndexFault RX8 (some (.object "RingTransit$Fault")) rm_X8_stopIndexFault (tyc cy) := C
  replace hZ : Zx Z X (Yc cy ad E G A 2 Q) := hZ
  show T X (Yc cy ad E G A 2 Q) (fun v => EndE E 0 6 X (Yc cy ad E G A 2 Q) cX8_stopIndexFault rm_X8_stopIndexFault (σ, v)) 0 0 0 [(0, .ref (ad r0)), (1, vi x1)] [] σ (f_X8_stopIndexFault σ r0 x1)
  unfold f_X8_stopIndexFault
  refine T_aload_n (pc := 0) C dX8_stopIndexFault_0 rfl 0 rfl ?_
  refine T_iload_n (pc := 1) C dX8_stopIndexFault_1 rfl 1 rfl ?_
  refine T_czVip (pc := 2) zk.1 hZ C [vi x1] [] (fun o h9 hw => ct_X8_hasStop zk σ r0 x1 k0 h1 hw o h9) kc_299 cm_X8_hasStop (rcc k0 (by decide) (fun _ => rfl) rfl) rfl rfl (Nat.le_of_ble_eq_true rfl) (by decide) (a' := 0) (b' := 0) ⟨rfl, rfl⟩ dX8_stopIndexFault_2 (fun v1 hv1 => ?_)
  refine T_if_eq (pc := 5) C 14 dX8_stopIndexFault_5 rfl hv1.1 (fun c2 => ?_) (fun c2 => ?_)
  · refine T_gets zk.2 hZ (pc := 14) C 1 1 rfl (by decide) kc_300 dX8_stopIndexFault_14 ?_
    exact T_eret (pc := 17) 1 (fun h9 => h9) (by decide) (by decide) dX8_stopIndexFault_17
  · refine T_gets zk.2 hZ (pc := 8) C 0 0 rfl (by decide) kc_301 dX8_stopIndexFault_8 ?_
    refine T_goto (pc := 11) C 17 dX8_stopIndexFault_11 rfl ?_
    exact T_eret (pc := 17) 0 (fun h9 => h9) (by decide) (by decide) dX8_stopIndexFault_17

abbrev rm_X8_stopPairFault : Room := ⟨1, 0, 0, 21⟩
theorem cm_X8_stopPairFault : cmV yX8_stopPairFault cX8_stopPairFault 3 (some (.object "RingTransit$Fault")) 2 := ⟨kc_40, kc_147, ⟨by decide +kernel, by decide +kernel, by decide +kernel⟩, kc_304, kc_305⟩
def f_X8_stopPairFault (σ : Sm) (r0 : Nat) (x1 : Int) (x2 : Int) : Option Int :=
  (f_X8_hasStop σ r0 x1).bind fun v1 => (if v1 = 0 then some 1 else (f_X8_hasStop σ r0 x2).bind fun v3 => (if v3 = 0 then some 1 else some 0))
theorem ct_X8_stopPairFault {l : Launch} {cy : Nat → ClassId} {ad : Nat → Nat} {E : Nat → Nat → Nat} {G : va_G} {Z : vZ} (zk : Zk Z E) (σ : Sm) (r0 : Nat) (x1 : Int) (x2 : Int) (k0 : kd r0 = 8) (h1 : rng x1) (h2 : rng x2) (hw : wfc σ) (o : Int) (h : f_X8_stopPairFault σ r0 x1 x2 = some o) : CzE Z E 0 6 l yX8_stopPairFault cX8_stopPairFault 3 (some (.object "RingTransit$Fault")) rm_X8_stopPairFault (wlc cy ad E) wfc G (tyc cy) [.ref (ad r0), vi x1, vi x2] σ σ o := by
  refine czE_of zk.1 (plainFor_of_name (by decide)) (Nat.le_of_ble_eq_true rfl) hw (σ, o) o h (fun X Y v => EndE E 0 6 X Y cX8_stopPairFault rm_X8_stopPairFault (σ, v)) (fun _ _ h => h) (fun X A Q hZ hX C => ?_)
  replace C : Cx X (Yc cy ad E G A 3 Q) cX8_stopPairFault RX8 (some (.object "RingTransit$Fault")) rm_X8_stopPairFault (tyc cy) := C
  replace hZ : Zx Z X (Yc cy ad E G A 3 Q) := hZ
  show T X (Yc cy ad E G A 3 Q) (fun v => EndE E 0 6 X (Yc cy ad E G A 3 Q) cX8_stopPairFault rm_X8_stopPairFault (σ, v)) 0 0 0 [(0, .ref (ad r0)), (1, vi x1), (2, vi x2)] [] σ (f_X8_stopPairFault σ r0 x1 x2)
  unfold f_X8_stopPairFault
  refine T_aload_n (pc := 0) C dX8_stopPairFault_0 rfl 0 rfl ?_
  refine T_iload_n (pc := 1) C dX8_stopPairFault_1 rfl 1 rfl ?_
  refine T_czVip (pc := 2) zk.1 hZ C [vi x1] [] (fun o h9 hw => ct_X8_hasStop zk σ r0 x1 k0 h1 hw o h9) kc_299 cm_X8_hasStop (rcc k0 (by decide) (fun _ => rfl) rfl) rfl rfl (Nat.le_of_ble_eq_true rfl) (by decide) (a' := 0) (b' := 0) ⟨rfl, rfl⟩ dX8_stopPairFault_2 (fun v1 hv1 => ?_)
  refine T_if_eq (pc := 5) C 22 dX8_stopPairFault_5 rfl hv1.1 (fun c2 => ?_) (fun c2 => ?_)
  · refine T_gets zk.2 hZ (pc := 22) C 1 1 rfl (by decide) kc_300 dX8_stopPairFault_22 ?_
    exact T_eret (pc := 25) 1 (fun h9 => h9) (by decide) (by decide) dX8_stopPairFault_25
  · refine T_aload_n (pc := 8) C dX8_stopPairFault_8 rfl 0 rfl ?_
    refine T_iload_n (pc := 9) C dX8_stopPairFault_9 rfl 2 rfl ?_
    refine T_czVip (pc := 10) zk.1 hZ C [vi x2] [] (fun o h9 hw => ct_X8_hasStop zk σ r0 x2 k0 h2 hw o h9) kc_299 cm_X8_hasStop (rcc k0 (by decide) (fun _ => rfl) rfl) rfl rfl (Nat.le_of_ble_eq_true rfl) (by decide) (a' := 0) (b' := 0) ⟨rfl, rfl⟩ dX8_stopPairFault_10 (fun v3 hv3 => ?_)
    refine T_if_eq (pc := 13) C 22 dX8_stopPairFault_13 rfl hv3.1 (fun c4 => ?_) (fun c4 => ?_)
    · refine T_gets zk.2 hZ (pc := 22) C 1 1 rfl (by decide) kc_300 dX8_stopPairFault_22 ?_
      exact T_eret (pc := 25) 1 (fun h9 => h9) (by decide) (by decide) dX8_stopPairFault_25
    · refine T_gets zk.2 hZ (pc := 16) C 0 0 rfl (by decide) kc_301 dX8_stopPairFault_16 ?_
      refine T_goto (pc := 19) C 25 dX8_stopPairFault_19 rfl ?_
      exact T_eret (pc := 25) 0 (fun h9 => h9) (by decide) (by decide) dX8_stopPairFault_25

abbrev rm_X8_lineIndexFault : Room := ⟨1, 0, 0, 21⟩
theorem cm_X8_lineIndexFault : cmV yX8_lineIndexFault cX8_lineIndexFault 2 (some (.object "RingTransit$Fault")) 1 := ⟨kc_41, kc_147, ⟨by decide +kernel, by decide +kernel, by decide +kernel⟩, kc_307, kc_308⟩
def f_X8_lineIndexFault (σ : Sm) (r0 : Nat) (x1 : Int) : Option Int :=
  (f_X8_hasLine σ r0 x1).bind fun v1 => (if v1 = 0 then some 1 else some 0)
theorem ct_X8_lineIndexFault {l : Launch} {cy : Nat → ClassId} {ad : Nat → Nat} {E : Nat → Nat → Nat} {G : va_G} {Z : vZ} (zk : Zk Z E) (σ : Sm) (r0 : Nat) (x1 : Int) (k0 : kd r0 = 8) (h1 : rng x1) (hw : wfc σ) (o : Int) (h : f_X8_lineIndexFault σ r0 x1 = some o) : CzE Z E 0 6 l yX8_lineIndexFault cX8_lineIndexFault 2 (some (.object "RingTransit$Fault")) rm_X8_lineIndexFault (wlc cy ad E) wfc G (tyc cy) [.ref (ad r0), vi x1] σ σ o := by
  refine czE_of zk.1 (plainFor_of_name (by decide)) (Nat.le_of_ble_eq_true rfl) hw (σ, o) o h (fun X Y v => EndE E 0 6 X Y cX8_lineIndexFault rm_X8_lineIndexFault (σ, v)) (fun _ _ h => h) (fun X A Q hZ hX C => ?_)
  replace C : Cx X (Yc cy ad E G A 2 Q) cX8_lineIndexFault RX8 (some (.object "RingTransit$Fault")) rm_X8_lineIndexFault (tyc cy) := C
  replace hZ : Zx Z X (Yc cy ad E G A 2 Q) := hZ
  show T X (Yc cy ad E G A 2 Q) (fun v => EndE E 0 6 X (Yc cy ad E G A 2 Q) cX8_lineIndexFault rm_X8_lineIndexFault (σ, v)) 0 0 0 [(0, .ref (ad r0)), (1, vi x1)] [] σ (f_X8_lineIndexFault σ r0 x1)
  unfold f_X8_lineIndexFault
  refine T_aload_n (pc := 0) C dX8_lineIndexFault_0 rfl 0 rfl ?_
  refine T_iload_n (pc := 1) C dX8_lineIndexFault_1 rfl 1 rfl ?_
  refine T_czVip (pc := 2) zk.1 hZ C [vi x1] [] (fun o h9 hw => ct_X8_hasLine zk σ r0 x1 k0 h1 hw o h9) kc_306 cm_X8_hasLine (rcc k0 (by decide) (fun _ => rfl) rfl) rfl rfl (Nat.le_of_ble_eq_true rfl) (by decide) (a' := 0) (b' := 0) ⟨rfl, rfl⟩ dX8_lineIndexFault_2 (fun v1 hv1 => ?_)
  refine T_if_eq (pc := 5) C 14 dX8_lineIndexFault_5 rfl hv1.1 (fun c2 => ?_) (fun c2 => ?_)
  · refine T_gets zk.2 hZ (pc := 14) C 1 1 rfl (by decide) kc_300 dX8_lineIndexFault_14 ?_
    exact T_eret (pc := 17) 1 (fun h9 => h9) (by decide) (by decide) dX8_lineIndexFault_17
  · refine T_gets zk.2 hZ (pc := 8) C 0 0 rfl (by decide) kc_301 dX8_lineIndexFault_8 ?_
    refine T_goto (pc := 11) C 17 dX8_lineIndexFault_11 rfl ?_
    exact T_eret (pc := 17) 0 (fun h9 => h9) (by decide) (by decide) dX8_lineIndexFault_17

abbrev rm_X8_lineAndStopFault : Room := ⟨1, 0, 0, 21⟩
theorem cm_X8_lineAndStopFault : cmV yX8_lineAndStopFault cX8_lineAndStopFault 3 (some (.object "RingTransit$Fault")) 2 := ⟨kc_42, kc_147, ⟨by decide +kernel, by decide +kernel, by decide +kernel⟩, kc_309, kc_310⟩
def f_X8_lineAndStopFault (σ : Sm) (r0 : Nat) (x1 : Int) (x2 : Int) : Option Int :=
  (f_X8_hasLine σ r0 x1).bind fun v1 => (if v1 = 0 then some 1 else (f_X8_hasStop σ r0 x2).bind fun v3 => (if v3 = 0 then some 1 else some 0))
theorem ct_X8_lineAndStopFault {l : Launch} {cy : Nat → ClassId} {ad : Nat → Nat} {E : Nat → Nat → Nat} {G : va_G} {Z : vZ} (zk : Zk Z E) (σ : Sm) (r0 : Nat) (x1 : Int) (x2 : Int) (k0 : kd r0 = 8) (h1 : rng x1) (h2 : rng x2) (hw : wfc σ) (o : Int) (h : f_X8_lineAndStopFault σ r0 x1 x2 = some o) : CzE Z E 0 6 l yX8_lineAndStopFault cX8_lineAndStopFault 3 (some (.object "RingTransit$Fault")) rm_X8_lineAndStopFault (wlc cy ad E) wfc G (tyc cy) [.ref (ad r0), vi x1, vi x2] σ σ o := by
  refine czE_of zk.1 (plainFor_of_name (by decide)) (Nat.le_of_ble_eq_true rfl) hw (σ, o) o h (fun X Y v => EndE E 0 6 X Y cX8_lineAndStopFault rm_X8_lineAndStopFault (σ, v)) (fun _ _ h => h) (fun X A Q hZ hX C => ?_)
  replace C : Cx X (Yc cy ad E G A 3 Q) cX8_lineAndStopFault RX8 (some (.object "RingTransit$Fault")) rm_X8_lineAndStopFault (tyc cy) := C
  replace hZ : Zx Z X (Yc cy ad E G A 3 Q) := hZ
  show T X (Yc cy ad E G A 3 Q) (fun v => EndE E 0 6 X (Yc cy ad E G A 3 Q) cX8_lineAndStopFault rm_X8_lineAndStopFault (σ, v)) 0 0 0 [(0, .ref (ad r0)), (1, vi x1), (2, vi x2)] [] σ (f_X8_lineAndStopFault σ r0 x1 x2)
  unfold f_X8_lineAndStopFault
  refine T_aload_n (pc := 0) C dX8_lineAndStopFault_0 rfl 0 rfl ?_
  refine T_iload_n (pc := 1) C dX8_lineAndStopFault_1 rfl 1 rfl ?_
  refine T_czVip (pc := 2) zk.1 hZ C [vi x1] [] (fun o h9 hw => ct_X8_hasLine zk σ r0 x1 k0 h1 hw o h9) kc_306 cm_X8_hasLine (rcc k0 (by decide) (fun _ => rfl) rfl) rfl rfl (Nat.le_of_ble_eq_true rfl) (by decide) (a' := 0) (b' := 0) ⟨rfl, rfl⟩ dX8_lineAndStopFault_2 (fun v1 hv1 => ?_)
  refine T_if_eq (pc := 5) C 22 dX8_lineAndStopFault_5 rfl hv1.1 (fun c2 => ?_) (fun c2 => ?_)
  · refine T_gets zk.2 hZ (pc := 22) C 1 1 rfl (by decide) kc_300 dX8_lineAndStopFault_22 ?_
    exact T_eret (pc := 25) 1 (fun h9 => h9) (by decide) (by decide) dX8_lineAndStopFault_25
  · refine T_aload_n (pc := 8) C dX8_lineAndStopFault_8 rfl 0 rfl ?_
    refine T_iload_n (pc := 9) C dX8_lineAndStopFault_9 rfl 2 rfl ?_
    refine T_czVip (pc := 10) zk.1 hZ C [vi x2] [] (fun o h9 hw => ct_X8_hasStop zk σ r0 x2 k0 h2 hw o h9) kc_299 cm_X8_hasStop (rcc k0 (by decide) (fun _ => rfl) rfl) rfl rfl (Nat.le_of_ble_eq_true rfl) (by decide) (a' := 0) (b' := 0) ⟨rfl, rfl⟩ dX8_lineAndStopFault_10 (fun v3 hv3 => ?_)
    refine T_if_eq (pc := 13) C 22 dX8_lineAndStopFault_13 rfl hv3.1 (fun c4 => ?_) (fun c4 => ?_)
    · refine T_gets zk.2 hZ (pc := 22) C 1 1 rfl (by decide) kc_300 dX8_lineAndStopFault_22 ?_
      exact T_eret (pc := 25) 1 (fun h9 => h9) (by decide) (by decide) dX8_lineAndStopFault_25
    · refine T_gets zk.2 hZ (pc := 16) C 0 0 rfl (by decide) kc_301 dX8_lineAndStopFault_16 ?_
      refine T_goto (pc := 19) C 25 dX8_lineAndStopFault_19 rfl ?_
      exact T_eret (pc := 25) 0 (fun h9 => h9) (by decide) (by decide) dX8_lineAndStopFault_25

abbrev rm_X8_stopFault : Room := ⟨0, 0, 0, 0⟩
theorem cm_X8_stopFault : cmV yX8_stopFault cX8_stopFault 2 (some (.object "RingTransit$Fault")) 1 := ⟨kc_43, kc_147, ⟨by decide +kernel, by decide +kernel, by decide +kernel⟩, kc_313, kc_314⟩
def f_X8_stopFault (σ : Sm) (r0 : Nat) (x1 : Int) : Option Int :=
  (if x1 < 0 then some 2 else (if x1 ≤ 9 then (if 10 ≤ (σ r0 2) then some 3 else some 0) else some 2))
theorem ct_X8_stopFault {l : Launch} {cy : Nat → ClassId} {ad : Nat → Nat} {E : Nat → Nat → Nat} {G : va_G} {Z : vZ} (zk : Zk Z E) (σ : Sm) (r0 : Nat) (x1 : Int) (k0 : kd r0 = 8) (h1 : rng x1) (hw : wfc σ) (o : Int) (h : f_X8_stopFault σ r0 x1 = some o) : CzE Z E 0 6 l yX8_stopFault cX8_stopFault 2 (some (.object "RingTransit$Fault")) rm_X8_stopFault (wlc cy ad E) wfc G (tyc cy) [.ref (ad r0), vi x1] σ σ o := by
  refine czE_of zk.1 (plainFor_of_name (by decide)) (Nat.le_of_ble_eq_true rfl) hw (σ, o) o h (fun X Y v => EndE E 0 6 X Y cX8_stopFault rm_X8_stopFault (σ, v)) (fun _ _ h => h) (fun X A Q hZ hX C => ?_)
  replace C : Cx X (Yc cy ad E G A 2 Q) cX8_stopFault RX8 (some (.object "RingTransit$Fault")) rm_X8_stopFault (tyc cy) := C
  replace hZ : Zx Z X (Yc cy ad E G A 2 Q) := hZ
  show T X (Yc cy ad E G A 2 Q) (fun v => EndE E 0 6 X (Yc cy ad E G A 2 Q) cX8_stopFault rm_X8_stopFault (σ, v)) 0 0 0 [(0, .ref (ad r0)), (1, vi x1)] [] σ (f_X8_stopFault σ r0 x1)
  unfold f_X8_stopFault
  refine T_iload_n (pc := 0) C dX8_stopFault_0 rfl 1 rfl ?_
  refine T_if_lt (pc := 1) C 10 dX8_stopFault_1 rfl h1 (fun c1 => ?_) (fun c1 => ?_)
  · refine T_gets zk.2 hZ (pc := 10) C 2 2 rfl (by decide) kc_311 dX8_stopFault_10 ?_
    exact T_eret (pc := 13) 2 (fun h9 => h9) (by decide) (by decide) dX8_stopFault_13
  · refine T_iload_n (pc := 4) C dX8_stopFault_4 rfl 1 rfl ?_
    refine T_bipush (pc := 5) C dX8_stopFault_5 (by decide) ?_
    refine T_icmp_le (pc := 7) C 14 dX8_stopFault_7 rfl h1 (rngL rfl) (fun c2 => ?_) (fun c2 => ?_)
    · refine T_aload_n (pc := 14) C dX8_stopFault_14 rfl 0 rfl ?_
      refine Tc_geti (pc := 15) C r0 8 2 10 k0 (by decide) (fun _ => rfl) rfl inX8 (by decide) rfl kc_263 dX8_stopFault_15 (fun z3 => ?_)
      refine T_bipush (pc := 18) C dX8_stopFault_18 (by decide) ?_
      refine T_icmp_ge (pc := 20) C 29 dX8_stopFault_20 rfl z3.1 (rngL rfl) (fun c4 => ?_) (fun c4 => ?_)
      · refine T_gets zk.2 hZ (pc := 29) C 3 3 rfl (by decide) kc_312 dX8_stopFault_29 ?_
        exact T_eret (pc := 32) 3 (fun h9 => h9) (by decide) (by decide) dX8_stopFault_32
      · refine T_gets zk.2 hZ (pc := 23) C 0 0 rfl (by decide) kc_301 dX8_stopFault_23 ?_
        refine T_goto (pc := 26) C 32 dX8_stopFault_26 rfl ?_
        exact T_eret (pc := 32) 0 (fun h9 => h9) (by decide) (by decide) dX8_stopFault_32
    · refine T_gets zk.2 hZ (pc := 10) C 2 2 rfl (by decide) kc_311 dX8_stopFault_10 ?_
      exact T_eret (pc := 13) 2 (fun h9 => h9) (by decide) (by decide) dX8_stopFault_13

abbrev rm_X8_putStop : Room := ⟨0, 0, 0, 0⟩
theorem cm_X8_putStop : cmV yX8_putStop cX8_putStop 2 (some .int) 1 := ⟨kc_44, kc_147, ⟨by decide +kernel, by decide +kernel, by decide +kernel⟩, kc_315, kc_316⟩
def f_X8_putStop (σ : Sm) (r0 : Nat) (x1 : Int) : Option (Sm × Int) :=
  (if (σ r0 2) < 10 then if 0 ≤ (σ r0 2) ∧ (σ r0 2) < 10 then bl (upm σ (r0 + 1) (σ r0 2).toNat x1) fun s5 => if 0 ≤ (s5 r0 2) ∧ (s5 r0 2) < 10 then bl (upm s5 (r0 + 2) (s5 r0 2).toNat 0) fun s8 => if rng ((s8 r0 2) + 1) then bl (upm s8 r0 2 ((s8 r0 2) + 1)) fun s11 => if rng ((s11 r0 2) - 1) then some (s11, ((s11 r0 2) - 1)) else none else none else none else none else some (σ, (-1)))
theorem ct_X8_putStop {l : Launch} {cy : Nat → ClassId} {ad : Nat → Nat} {E : Nat → Nat → Nat} {G : va_G} {Z : vZ} (zk : Zk Z E) (σ : Sm) (r0 : Nat) (x1 : Int) (k0 : kd r0 = 8) (h1 : rng x1) (hw : wfc σ) (o : Sm × Int) (h : f_X8_putStop σ r0 x1 = some o) : CzI Z l yX8_putStop cX8_putStop 2 (some .int) rm_X8_putStop (wlc cy ad E) wfc G (tyc cy) [.ref (ad r0), vi x1] σ o.1 o.2 := by
  refine czI_of zk.1 (plainFor_of_name (by decide)) (Nat.le_of_ble_eq_true rfl) hw o o h (fun X Y w => EndI X Y cX8_putStop rm_X8_putStop .int w) (fun _ _ h => h) (fun X A Q hZ hX C => ?_)
  replace C : Cx X (Yc cy ad E G A 2 Q) cX8_putStop RX8 (some .int) rm_X8_putStop (tyc cy) := C
  replace hZ : Zx Z X (Yc cy ad E G A 2 Q) := hZ
  show T X (Yc cy ad E G A 2 Q) (fun w => EndI X (Yc cy ad E G A 2 Q) cX8_putStop rm_X8_putStop .int w) 0 0 0 [(0, .ref (ad r0)), (1, vi x1)] [] σ (f_X8_putStop σ r0 x1)
  unfold f_X8_putStop
  refine T_aload_n (pc := 0) C dX8_putStop_0 rfl 0 rfl ?_
  refine Tc_geti (pc := 1) C r0 8 2 10 k0 (by decide) (fun _ => rfl) rfl inX8 (by decide) rfl kc_263 dX8_putStop_1 (fun z1 => ?_)
  refine T_bipush (pc := 4) C dX8_putStop_4 (by decide) ?_
  refine T_icmp_lt (pc := 6) C 11 dX8_putStop_6 rfl z1.1 (rngL rfl) (fun c2 => ?_) (fun c2 => ?_)
  · refine T_aload_n (pc := 11) C dX8_putStop_11 rfl 0 rfl ?_
    refine Tc_getr (pc := 12) C r0 8 3 10 k0 (by decide) (fun _ => rfl) rfl inX8 (by decide) (v := .ref (ad (r0 + 1))) rfl kc_264 dX8_putStop_12 ?_
    refine T_aload_n (pc := 15) C dX8_putStop_15 rfl 0 rfl ?_
    refine Tc_geti (pc := 16) C r0 8 2 10 k0 (by decide) (fun _ => rfl) rfl inX8 (by decide) rfl kc_263 dX8_putStop_16 (fun z3 => ?_)
    refine T_iload_n (pc := 19) C dX8_putStop_19 rfl 1 rfl ?_
    refine T_guard (fun g4 => ?_)
    refine Tc_iast (pc := 20) C (r0 + 1) 20 10 (σ r0 2).toNat (kd_8 k0).1 ⟨by decide, by decide⟩ rfl g4 rfl h1 dX8_putStop_20 ?_
    refine T_blS (fun s5 => ?_)
    refine T_aload_n (pc := 21) C dX8_putStop_21 rfl 0 rfl ?_
    refine Tc_getr (pc := 22) C r0 8 4 10 k0 (by decide) (fun _ => rfl) rfl inX8 (by decide) (v := .ref (ad (r0 + 2))) rfl kc_151 dX8_putStop_22 ?_
    refine T_aload_n (pc := 25) C dX8_putStop_25 rfl 0 rfl ?_
    refine Tc_geti (pc := 26) C r0 8 2 10 k0 (by decide) (fun _ => rfl) rfl inX8 (by decide) rfl kc_263 dX8_putStop_26 (fun z6 => ?_)
    refine T_iconst (pc := 29) C dX8_putStop_29 ?_
    refine T_guard (fun g7 => ?_)
    refine Tc_zast (pc := 30) C (r0 + 2) (s5 r0 2).toNat (kd_8 k0).2.1 g7 rfl (Or.inl rfl) dX8_putStop_30 ?_
    refine T_blS (fun s8 => ?_)
    refine T_aload_n (pc := 31) C dX8_putStop_31 rfl 0 rfl ?_
    refine T_dup (pc := 32) C dX8_putStop_32 rfl ?_
    refine Tc_geti (pc := 33) C r0 8 2 10 k0 (by decide) (fun _ => rfl) rfl inX8 (by decide) rfl kc_263 dX8_putStop_33 (fun z9 => ?_)
    refine T_iconst (pc := 36) C dX8_putStop_36 ?_
    refine T_iadd (pc := 37) C dX8_putStop_37 ?_
    refine T_guard (fun g10 => ?_)
    refine Tc_put (pc := 38) C (ty := .int) r0 8 2 10 k0 (by decide) (fun _ => rfl) rfl inX8 (by decide) (fun _ => rfl) ⟨g10, fun e9 => absurd e9 (by decide)⟩ tyX8 tyX8_ok nmX8 rfl (Nat.le_of_ble_eq_true rfl) kc_263 rfl (nar_I _) (fit_I _) dX8_putStop_38 ?_
    refine T_blS (fun s11 => ?_)
    refine T_aload_n (pc := 41) C dX8_putStop_41 rfl 0 rfl ?_
    refine Tc_geti (pc := 42) C r0 8 2 10 k0 (by decide) (fun _ => rfl) rfl inX8 (by decide) rfl kc_263 dX8_putStop_42 (fun z12 => ?_)
    refine T_iconst (pc := 45) C dX8_putStop_45 ?_
    refine T_isub (pc := 46) C dX8_putStop_46 ?_
    refine T_guard (fun g13 => ?_)
    exact T_iret (pc := 47) (s11, ((s11 r0 2) - 1)) (fun h9 => h9) g13 (nar_I _) (by decide) dX8_putStop_47
  · refine T_iconst (pc := 9) C dX8_putStop_9 ?_
    exact T_iret (pc := 10) (σ, (-1)) (fun h9 => h9) (rngL rfl) (nar_I _) (by decide) dX8_putStop_10

abbrev rm_X8_walkFault : Room := ⟨1, 0, 0, 22⟩
theorem cm_X8_walkFault : cmV yX8_walkFault cX8_walkFault 5 (some (.object "RingTransit$Fault")) 3 := ⟨kc_47, kc_147, ⟨by decide +kernel, by decide +kernel, by decide +kernel⟩, kc_317, kc_318⟩
def f_X8_walkFault (σ : Sm) (r0 : Nat) (x1 : Int) (x2 : Int) (x3 : Int) : Option Int :=
  (f_X8_hasStop σ r0 x1).bind fun v1 => (if v1 = 0 then some 1 else (f_X8_hasStop σ r0 x2).bind fun v3 => (if v3 = 0 then some 1 else (if x1 = x2 then some 2 else (if x3 < 1 then some 2 else (if x3 ≤ 30 then (f_X8_walkBetween σ r0 x1 x2).bind fun v8 => (if v8 = 0 then (if 15 ≤ (σ r0 5) then some 3 else some 0) else some 3) else some 2)))))
theorem ct_X8_walkFault {l : Launch} {cy : Nat → ClassId} {ad : Nat → Nat} {E : Nat → Nat → Nat} {G : va_G} {Z : vZ} (zk : Zk Z E) (σ : Sm) (r0 : Nat) (x1 : Int) (x2 : Int) (x3 : Int) (k0 : kd r0 = 8) (h1 : rng x1) (h2 : rng x2) (h3 : rng x3) (hw : wfc σ) (o : Int) (h : f_X8_walkFault σ r0 x1 x2 x3 = some o) : CzE Z E 0 6 l yX8_walkFault cX8_walkFault 5 (some (.object "RingTransit$Fault")) rm_X8_walkFault (wlc cy ad E) wfc G (tyc cy) [.ref (ad r0), vi x1, vi x2, vi x3] σ σ o := by
  refine czE_of zk.1 (plainFor_of_name (by decide)) (Nat.le_of_ble_eq_true rfl) hw (σ, o) o h (fun X Y v => EndE E 0 6 X Y cX8_walkFault rm_X8_walkFault (σ, v)) (fun _ _ h => h) (fun X A Q hZ hX C => ?_)
  replace C : Cx X (Yc cy ad E G A 5 Q) cX8_walkFault RX8 (some (.object "RingTransit$Fault")) rm_X8_walkFault (tyc cy) := C
  replace hZ : Zx Z X (Yc cy ad E G A 5 Q) := hZ
  show T X (Yc cy ad E G A 5 Q) (fun v => EndE E 0 6 X (Yc cy ad E G A 5 Q) cX8_walkFault rm_X8_walkFault (σ, v)) 0 0 0 [(0, .ref (ad r0)), (1, vi x1), (2, vi x2), (3, vi x3)] [] σ (f_X8_walkFault σ r0 x1 x2 x3)
  unfold f_X8_walkFault
  refine T_aload_n (pc := 0) C dX8_walkFault_0 rfl 0 rfl ?_
  refine T_iload_n (pc := 1) C dX8_walkFault_1 rfl 1 rfl ?_
  refine T_czVip (pc := 2) zk.1 hZ C [vi x1] [] (fun o h9 hw => ct_X8_hasStop zk σ r0 x1 k0 h1 hw o h9) kc_299 cm_X8_hasStop (rcc k0 (by decide) (fun _ => rfl) rfl) rfl rfl (Nat.le_of_ble_eq_true rfl) (by decide) (a' := 0) (b' := 0) ⟨rfl, rfl⟩ dX8_walkFault_2 (fun v1 hv1 => ?_)
  refine T_if_eq (pc := 5) C 16 dX8_walkFault_5 rfl hv1.1 (fun c2 => ?_) (fun c2 => ?_)
  · refine T_gets zk.2 hZ (pc := 16) C 1 1 rfl (by decide) kc_300 dX8_walkFault_16 ?_
    exact T_eret (pc := 19) 1 (fun h9 => h9) (by decide) (by decide) dX8_walkFault_19
  · refine T_aload_n (pc := 8) C dX8_walkFault_8 rfl 0 rfl ?_
    refine T_iload_n (pc := 9) C dX8_walkFault_9 rfl 2 rfl ?_
    refine T_czVip (pc := 10) zk.1 hZ C [vi x2] [] (fun o h9 hw => ct_X8_hasStop zk σ r0 x2 k0 h2 hw o h9) kc_299 cm_X8_hasStop (rcc k0 (by decide) (fun _ => rfl) rfl) rfl rfl (Nat.le_of_ble_eq_true rfl) (by decide) (a' := 0) (b' := 0) ⟨rfl, rfl⟩ dX8_walkFault_10 (fun v3 hv3 => ?_)
    refine T_if_ne (pc := 13) C 20 dX8_walkFault_13 rfl hv3.1 (fun c4 => ?_) (fun c4 => ?_)
    · refine T_iload_n (pc := 20) C dX8_walkFault_20 rfl 1 rfl ?_
      refine T_iload_n (pc := 21) C dX8_walkFault_21 rfl 2 rfl ?_
      refine T_icmp_eq (pc := 22) C 36 dX8_walkFault_22 rfl h1 h2 (fun c5 => ?_) (fun c5 => ?_)
      · refine T_gets zk.2 hZ (pc := 36) C 2 2 rfl (by decide) kc_311 dX8_walkFault_36 ?_
        exact T_eret (pc := 39) 2 (fun h9 => h9) (by decide) (by decide) dX8_walkFault_39
      · refine T_iload_n (pc := 25) C dX8_walkFault_25 rfl 3 rfl ?_
        refine T_iconst (pc := 26) C dX8_walkFault_26 ?_
        refine T_icmp_lt (pc := 27) C 36 dX8_walkFault_27 rfl h3 (rngL rfl) (fun c6 => ?_) (fun c6 => ?_)
        · refine T_gets zk.2 hZ (pc := 36) C 2 2 rfl (by decide) kc_311 dX8_walkFault_36 ?_
          exact T_eret (pc := 39) 2 (fun h9 => h9) (by decide) (by decide) dX8_walkFault_39
        · refine T_iload_n (pc := 30) C dX8_walkFault_30 rfl 3 rfl ?_
          refine T_bipush (pc := 31) C dX8_walkFault_31 (by decide) ?_
          refine T_icmp_le (pc := 33) C 40 dX8_walkFault_33 rfl h3 (rngL rfl) (fun c7 => ?_) (fun c7 => ?_)
          · refine T_aload_n (pc := 40) C dX8_walkFault_40 rfl 0 rfl ?_
            refine T_iload_n (pc := 41) C dX8_walkFault_41 rfl 1 rfl ?_
            refine T_iload_n (pc := 42) C dX8_walkFault_42 rfl 2 rfl ?_
            refine T_czVip (pc := 43) zk.1 hZ C [vi x1, vi x2] [] (fun o h9 hw => ct_X8_walkBetween zk σ r0 x1 x2 k0 h1 h2 hw o h9) kc_150 cm_X8_walkBetween (rcc k0 (by decide) (fun _ => rfl) rfl) rfl rfl (Nat.le_of_ble_eq_true rfl) (by decide) (a' := 0) (b' := 0) ⟨rfl, rfl⟩ dX8_walkFault_43 (fun v8 hv8 => ?_)
            refine T_if_ne (pc := 46) C 62 dX8_walkFault_46 rfl hv8.1 (fun c9 => ?_) (fun c9 => ?_)
            · refine T_iconst (pc := 62) C dX8_walkFault_62 ?_
              refine T_istore (pc := 63) (L' := [(4, vi 0), (0, .ref (ad r0)), (1, vi x1), (2, vi x2), (3, vi x3)]) C dX8_walkFault_63 (Nat.le_of_ble_eq_true rfl) rfl ?_
              refine T_iload (pc := 65) C dX8_walkFault_65 0 rfl ?_
              refine T_if_eq_t (pc := 67) C 76 dX8_walkFault_67 rfl (rngL rfl) (by decide) ?_
              refine T_gets zk.2 hZ (pc := 76) C 3 3 rfl (by decide) kc_312 dX8_walkFault_76 ?_
              exact T_eret (pc := 79) 3 (fun h9 => h9) (by decide) (by decide) dX8_walkFault_79
            · refine T_aload_n (pc := 49) C dX8_walkFault_49 rfl 0 rfl ?_
              refine Tc_geti (pc := 50) C r0 8 5 10 k0 (by decide) (fun _ => rfl) rfl inX8 (by decide) rfl kc_266 dX8_walkFault_50 (fun z11 => ?_)
              refine T_bipush (pc := 53) C dX8_walkFault_53 (by decide) ?_
              refine T_icmp_ge (pc := 55) C 62 dX8_walkFault_55 rfl z11.1 (rngL rfl) (fun c12 => ?_) (fun c12 => ?_)
              · refine T_iconst (pc := 62) C dX8_walkFault_62 ?_
                refine T_istore (pc := 63) (L' := [(4, vi 0), (0, .ref (ad r0)), (1, vi x1), (2, vi x2), (3, vi x3)]) C dX8_walkFault_63 (Nat.le_of_ble_eq_true rfl) rfl ?_
                refine T_iload (pc := 65) C dX8_walkFault_65 0 rfl ?_
                refine T_if_eq_t (pc := 67) C 76 dX8_walkFault_67 rfl (rngL rfl) (by decide) ?_
                refine T_gets zk.2 hZ (pc := 76) C 3 3 rfl (by decide) kc_312 dX8_walkFault_76 ?_
                exact T_eret (pc := 79) 3 (fun h9 => h9) (by decide) (by decide) dX8_walkFault_79
              · refine T_iconst (pc := 58) C dX8_walkFault_58 ?_
                refine T_goto (pc := 59) C 63 dX8_walkFault_59 rfl ?_
                refine T_istore (pc := 63) (L' := [(4, vi 1), (0, .ref (ad r0)), (1, vi x1), (2, vi x2), (3, vi x3)]) C dX8_walkFault_63 (Nat.le_of_ble_eq_true rfl) rfl ?_
                refine T_iload (pc := 65) C dX8_walkFault_65 0 rfl ?_
                refine T_if_eq_f (pc := 67) C 76 dX8_walkFault_67 rfl (rngL rfl) (by decide) ?_
                refine T_gets zk.2 hZ (pc := 70) C 0 0 rfl (by decide) kc_301 dX8_walkFault_70 ?_
                refine T_goto (pc := 73) C 79 dX8_walkFault_73 rfl ?_
                exact T_eret (pc := 79) 0 (fun h9 => h9) (by decide) (by decide) dX8_walkFault_79
          · refine T_gets zk.2 hZ (pc := 36) C 2 2 rfl (by decide) kc_311 dX8_walkFault_36 ?_
            exact T_eret (pc := 39) 2 (fun h9 => h9) (by decide) (by decide) dX8_walkFault_39
    · refine T_gets zk.2 hZ (pc := 16) C 1 1 rfl (by decide) kc_300 dX8_walkFault_16 ?_
      exact T_eret (pc := 19) 1 (fun h9 => h9) (by decide) (by decide) dX8_walkFault_19

abbrev rm_X8_putWalk : Room := ⟨0, 0, 0, 0⟩
theorem cm_X8_putWalk : cmV yX8_putWalk cX8_putWalk 4 (some .int) 3 := ⟨kc_48, kc_147, ⟨by decide +kernel, by decide +kernel, by decide +kernel⟩, kc_319, kc_320⟩
def f_X8_putWalk (σ : Sm) (r0 : Nat) (x1 : Int) (x2 : Int) (x3 : Int) : Option (Sm × Int) :=
  if 0 ≤ ((x1 * 10) + x2) ∧ ((x1 * 10) + x2) < 100 then bl (upm σ (r0 + 3) ((x1 * 10) + x2).toNat x3) fun s2 => if 0 ≤ ((x2 * 10) + x1) ∧ ((x2 * 10) + x1) < 100 then bl (upm s2 (r0 + 3) ((x2 * 10) + x1).toNat x3) fun s4 => if rng ((s4 r0 5) + 1) then bl (upm s4 r0 5 ((s4 r0 5) + 1)) fun s7 => some (s7, (s7 r0 5)) else none else none else none
theorem ct_X8_putWalk {l : Launch} {cy : Nat → ClassId} {ad : Nat → Nat} {E : Nat → Nat → Nat} {G : va_G} {Z : vZ} (zk : Zk Z E) (σ : Sm) (r0 : Nat) (x1 : Int) (x2 : Int) (x3 : Int) (k0 : kd r0 = 8) (h1 : rng x1) (h2 : rng x2) (h3 : rng x3) (hw : wfc σ) (o : Sm × Int) (h : f_X8_putWalk σ r0 x1 x2 x3 = some o) : CzI Z l yX8_putWalk cX8_putWalk 4 (some .int) rm_X8_putWalk (wlc cy ad E) wfc G (tyc cy) [.ref (ad r0), vi x1, vi x2, vi x3] σ o.1 o.2 := by
  refine czI_of zk.1 (plainFor_of_name (by decide)) (Nat.le_of_ble_eq_true rfl) hw o o h (fun X Y w => EndI X Y cX8_putWalk rm_X8_putWalk .int w) (fun _ _ h => h) (fun X A Q hZ hX C => ?_)
  replace C : Cx X (Yc cy ad E G A 4 Q) cX8_putWalk RX8 (some .int) rm_X8_putWalk (tyc cy) := C
  replace hZ : Zx Z X (Yc cy ad E G A 4 Q) := hZ
  show T X (Yc cy ad E G A 4 Q) (fun w => EndI X (Yc cy ad E G A 4 Q) cX8_putWalk rm_X8_putWalk .int w) 0 0 0 [(0, .ref (ad r0)), (1, vi x1), (2, vi x2), (3, vi x3)] [] σ (f_X8_putWalk σ r0 x1 x2 x3)
  unfold f_X8_putWalk
  refine T_aload_n (pc := 0) C dX8_putWalk_0 rfl 0 rfl ?_
  refine Tc_getr (pc := 1) C r0 8 6 10 k0 (by decide) (fun _ => rfl) rfl inX8 (by decide) (v := .ref (ad (r0 + 3))) rfl kc_146 dX8_putWalk_1 ?_
  refine T_iload_n (pc := 4) C dX8_putWalk_4 rfl 1 rfl ?_
  refine T_bipush (pc := 5) C dX8_putWalk_5 (by decide) ?_
  refine T_imul (pc := 7) C dX8_putWalk_7 ?_
  refine T_iload_n (pc := 8) C dX8_putWalk_8 rfl 2 rfl ?_
  refine T_iadd (pc := 9) C dX8_putWalk_9 ?_
  refine T_iload_n (pc := 10) C dX8_putWalk_10 rfl 3 rfl ?_
  refine T_guard (fun g1 => ?_)
  refine Tc_iast (pc := 11) C (r0 + 3) 21 100 ((x1 * 10) + x2).toNat (kd_8 k0).2.2.1 ⟨by decide, by decide⟩ rfl g1 rfl h3 dX8_putWalk_11 ?_
  refine T_blS (fun s2 => ?_)
  refine T_aload_n (pc := 12) C dX8_putWalk_12 rfl 0 rfl ?_
  refine Tc_getr (pc := 13) C r0 8 6 10 k0 (by decide) (fun _ => rfl) rfl inX8 (by decide) (v := .ref (ad (r0 + 3))) rfl kc_146 dX8_putWalk_13 ?_
  refine T_iload_n (pc := 16) C dX8_putWalk_16 rfl 2 rfl ?_
  refine T_bipush (pc := 17) C dX8_putWalk_17 (by decide) ?_
  refine T_imul (pc := 19) C dX8_putWalk_19 ?_
  refine T_iload_n (pc := 20) C dX8_putWalk_20 rfl 1 rfl ?_
  refine T_iadd (pc := 21) C dX8_putWalk_21 ?_
  refine T_iload_n (pc := 22) C dX8_putWalk_22 rfl 3 rfl ?_
  refine T_guard (fun g3 => ?_)
  refine Tc_iast (pc := 23) C (r0 + 3) 21 100 ((x2 * 10) + x1).toNat (kd_8 k0).2.2.1 ⟨by decide, by decide⟩ rfl g3 rfl h3 dX8_putWalk_23 ?_
  refine T_blS (fun s4 => ?_)
  refine T_aload_n (pc := 24) C dX8_putWalk_24 rfl 0 rfl ?_
  refine T_dup (pc := 25) C dX8_putWalk_25 rfl ?_
  refine Tc_geti (pc := 26) C r0 8 5 10 k0 (by decide) (fun _ => rfl) rfl inX8 (by decide) rfl kc_266 dX8_putWalk_26 (fun z5 => ?_)
  refine T_iconst (pc := 29) C dX8_putWalk_29 ?_
  refine T_iadd (pc := 30) C dX8_putWalk_30 ?_
  refine T_guard (fun g6 => ?_)
  refine Tc_put (pc := 31) C (ty := .int) r0 8 5 10 k0 (by decide) (fun _ => rfl) rfl inX8 (by decide) (fun _ => rfl) ⟨g6, fun e9 => absurd e9 (by decide)⟩ tyX8 tyX8_ok nmX8 rfl (Nat.le_of_ble_eq_true rfl) kc_266 rfl (nar_I _) (fit_I _) dX8_putWalk_31 ?_
  refine T_blS (fun s7 => ?_)
  refine T_aload_n (pc := 34) C dX8_putWalk_34 rfl 0 rfl ?_
  refine Tc_geti (pc := 35) C r0 8 5 10 k0 (by decide) (fun _ => rfl) rfl inX8 (by decide) rfl kc_266 dX8_putWalk_35 (fun z8 => ?_)
  exact T_iret (pc := 38) (s7, (s7 r0 5)) (fun h9 => h9) z8.1 (nar_I _) (by decide) dX8_putWalk_38

abbrev rm_X8_walkedFault : Room := ⟨1, 0, 0, 22⟩
theorem cm_X8_walkedFault : cmV yX8_walkedFault cX8_walkedFault 3 (some (.object "RingTransit$Fault")) 2 := ⟨kc_49, kc_147, ⟨by decide +kernel, by decide +kernel, by decide +kernel⟩, kc_322, kc_323⟩
def f_X8_walkedFault (σ : Sm) (r0 : Nat) (x1 : Int) (x2 : Int) : Option Int :=
  (f_X8_hasStop σ r0 x1).bind fun v1 => (if v1 = 0 then some 1 else (f_X8_hasStop σ r0 x2).bind fun v3 => (if v3 = 0 then some 1 else (f_X8_walkBetween σ r0 x1 x2).bind fun v5 => (if v5 ≤ 0 then some 4 else some 0)))
theorem ct_X8_walkedFault {l : Launch} {cy : Nat → ClassId} {ad : Nat → Nat} {E : Nat → Nat → Nat} {G : va_G} {Z : vZ} (zk : Zk Z E) (σ : Sm) (r0 : Nat) (x1 : Int) (x2 : Int) (k0 : kd r0 = 8) (h1 : rng x1) (h2 : rng x2) (hw : wfc σ) (o : Int) (h : f_X8_walkedFault σ r0 x1 x2 = some o) : CzE Z E 0 6 l yX8_walkedFault cX8_walkedFault 3 (some (.object "RingTransit$Fault")) rm_X8_walkedFault (wlc cy ad E) wfc G (tyc cy) [.ref (ad r0), vi x1, vi x2] σ σ o := by
  refine czE_of zk.1 (plainFor_of_name (by decide)) (Nat.le_of_ble_eq_true rfl) hw (σ, o) o h (fun X Y v => EndE E 0 6 X Y cX8_walkedFault rm_X8_walkedFault (σ, v)) (fun _ _ h => h) (fun X A Q hZ hX C => ?_)
  replace C : Cx X (Yc cy ad E G A 3 Q) cX8_walkedFault RX8 (some (.object "RingTransit$Fault")) rm_X8_walkedFault (tyc cy) := C
  replace hZ : Zx Z X (Yc cy ad E G A 3 Q) := hZ
  show T X (Yc cy ad E G A 3 Q) (fun v => EndE E 0 6 X (Yc cy ad E G A 3 Q) cX8_walkedFault rm_X8_walkedFault (σ, v)) 0 0 0 [(0, .ref (ad r0)), (1, vi x1), (2, vi x2)] [] σ (f_X8_walkedFault σ r0 x1 x2)
  unfold f_X8_walkedFault
  refine T_aload_n (pc := 0) C dX8_walkedFault_0 rfl 0 rfl ?_
  refine T_iload_n (pc := 1) C dX8_walkedFault_1 rfl 1 rfl ?_
  refine T_czVip (pc := 2) zk.1 hZ C [vi x1] [] (fun o h9 hw => ct_X8_hasStop zk σ r0 x1 k0 h1 hw o h9) kc_299 cm_X8_hasStop (rcc k0 (by decide) (fun _ => rfl) rfl) rfl rfl (Nat.le_of_ble_eq_true rfl) (by decide) (a' := 0) (b' := 0) ⟨rfl, rfl⟩ dX8_walkedFault_2 (fun v1 hv1 => ?_)
  refine T_if_eq (pc := 5) C 16 dX8_walkedFault_5 rfl hv1.1 (fun c2 => ?_) (fun c2 => ?_)
  · refine T_gets zk.2 hZ (pc := 16) C 1 1 rfl (by decide) kc_300 dX8_walkedFault_16 ?_
    exact T_eret (pc := 19) 1 (fun h9 => h9) (by decide) (by decide) dX8_walkedFault_19
  · refine T_aload_n (pc := 8) C dX8_walkedFault_8 rfl 0 rfl ?_
    refine T_iload_n (pc := 9) C dX8_walkedFault_9 rfl 2 rfl ?_
    refine T_czVip (pc := 10) zk.1 hZ C [vi x2] [] (fun o h9 hw => ct_X8_hasStop zk σ r0 x2 k0 h2 hw o h9) kc_299 cm_X8_hasStop (rcc k0 (by decide) (fun _ => rfl) rfl) rfl rfl (Nat.le_of_ble_eq_true rfl) (by decide) (a' := 0) (b' := 0) ⟨rfl, rfl⟩ dX8_walkedFault_10 (fun v3 hv3 => ?_)
    refine T_if_ne (pc := 13) C 20 dX8_walkedFault_13 rfl hv3.1 (fun c4 => ?_) (fun c4 => ?_)
    · refine T_aload_n (pc := 20) C dX8_walkedFault_20 rfl 0 rfl ?_
      refine T_iload_n (pc := 21) C dX8_walkedFault_21 rfl 1 rfl ?_
      refine T_iload_n (pc := 22) C dX8_walkedFault_22 rfl 2 rfl ?_
      refine T_czVip (pc := 23) zk.1 hZ C [vi x1, vi x2] [] (fun o h9 hw => ct_X8_walkBetween zk σ r0 x1 x2 k0 h1 h2 hw o h9) kc_150 cm_X8_walkBetween (rcc k0 (by decide) (fun _ => rfl) rfl) rfl rfl (Nat.le_of_ble_eq_true rfl) (by decide) (a' := 0) (b' := 0) ⟨rfl, rfl⟩ dX8_walkedFault_23 (fun v5 hv5 => ?_)
      refine T_if_le (pc := 26) C 35 dX8_walkedFault_26 rfl hv5.1 (fun c6 => ?_) (fun c6 => ?_)
      · refine T_gets zk.2 hZ (pc := 35) C 4 4 rfl (by decide) kc_321 dX8_walkedFault_35 ?_
        exact T_eret (pc := 38) 4 (fun h9 => h9) (by decide) (by decide) dX8_walkedFault_38
      · refine T_gets zk.2 hZ (pc := 29) C 0 0 rfl (by decide) kc_301 dX8_walkedFault_29 ?_
        refine T_goto (pc := 32) C 38 dX8_walkedFault_32 rfl ?_
        exact T_eret (pc := 38) 0 (fun h9 => h9) (by decide) (by decide) dX8_walkedFault_38
    · refine T_gets zk.2 hZ (pc := 16) C 1 1 rfl (by decide) kc_300 dX8_walkedFault_16 ?_
      exact T_eret (pc := 19) 1 (fun h9 => h9) (by decide) (by decide) dX8_walkedFault_19

abbrev rm_X8_dropWalk : Room := ⟨1, 0, 0, 22⟩
theorem cm_X8_dropWalk : cmV yX8_dropWalk cX8_dropWalk 4 (some .int) 2 := ⟨kc_50, kc_147, ⟨by decide +kernel, by decide +kernel, by decide +kernel⟩, kc_324, kc_325⟩
def f_X8_dropWalk (σ : Sm) (r0 : Nat) (x1 : Int) (x2 : Int) : Option (Sm × Int) :=
  (f_X8_walkBetween σ r0 x1 x2).bind fun v1 => if 0 ≤ ((x1 * 10) + x2) ∧ ((x1 * 10) + x2) < 100 then bl (upm σ (r0 + 3) ((x1 * 10) + x2).toNat 0) fun s3 => if 0 ≤ ((x2 * 10) + x1) ∧ ((x2 * 10) + x1) < 100 then bl (upm s3 (r0 + 3) ((x2 * 10) + x1).toNat 0) fun s5 => if rng ((s5 r0 5) - 1) then bl (upm s5 r0 5 ((s5 r0 5) - 1)) fun s8 => some (s8, v1) else none else none else none
theorem ct_X8_dropWalk {l : Launch} {cy : Nat → ClassId} {ad : Nat → Nat} {E : Nat → Nat → Nat} {G : va_G} {Z : vZ} (zk : Zk Z E) (σ : Sm) (r0 : Nat) (x1 : Int) (x2 : Int) (k0 : kd r0 = 8) (h1 : rng x1) (h2 : rng x2) (hw : wfc σ) (o : Sm × Int) (h : f_X8_dropWalk σ r0 x1 x2 = some o) : CzI Z l yX8_dropWalk cX8_dropWalk 4 (some .int) rm_X8_dropWalk (wlc cy ad E) wfc G (tyc cy) [.ref (ad r0), vi x1, vi x2] σ o.1 o.2 := by
  refine czI_of zk.1 (plainFor_of_name (by decide)) (Nat.le_of_ble_eq_true rfl) hw o o h (fun X Y w => EndI X Y cX8_dropWalk rm_X8_dropWalk .int w) (fun _ _ h => h) (fun X A Q hZ hX C => ?_)
  replace C : Cx X (Yc cy ad E G A 4 Q) cX8_dropWalk RX8 (some .int) rm_X8_dropWalk (tyc cy) := C
  replace hZ : Zx Z X (Yc cy ad E G A 4 Q) := hZ
  show T X (Yc cy ad E G A 4 Q) (fun w => EndI X (Yc cy ad E G A 4 Q) cX8_dropWalk rm_X8_dropWalk .int w) 0 0 0 [(0, .ref (ad r0)), (1, vi x1), (2, vi x2)] [] σ (f_X8_dropWalk σ r0 x1 x2)
  unfold f_X8_dropWalk
  refine T_aload_n (pc := 0) C dX8_dropWalk_0 rfl 0 rfl ?_
  refine T_iload_n (pc := 1) C dX8_dropWalk_1 rfl 1 rfl ?_
  refine T_iload_n (pc := 2) C dX8_dropWalk_2 rfl 2 rfl ?_
  refine T_czVip (pc := 3) zk.1 hZ C [vi x1, vi x2] [] (fun o h9 hw => ct_X8_walkBetween zk σ r0 x1 x2 k0 h1 h2 hw o h9) kc_150 cm_X8_walkBetween (rcc k0 (by decide) (fun _ => rfl) rfl) rfl rfl (Nat.le_of_ble_eq_true rfl) (by decide) (a' := 0) (b' := 0) ⟨rfl, rfl⟩ dX8_dropWalk_3 (fun v1 hv1 => ?_)
  refine T_istore_n (pc := 6) (L' := [(3, vi v1), (0, .ref (ad r0)), (1, vi x1), (2, vi x2)]) C dX8_dropWalk_6 rfl (Nat.le_of_ble_eq_true rfl) rfl ?_
  refine T_aload_n (pc := 7) C dX8_dropWalk_7 rfl 1 rfl ?_
  refine Tc_getr (pc := 8) C r0 8 6 10 k0 (by decide) (fun _ => rfl) rfl inX8 (by decide) (v := .ref (ad (r0 + 3))) rfl kc_146 dX8_dropWalk_8 ?_
  refine T_iload_n (pc := 11) C dX8_dropWalk_11 rfl 2 rfl ?_
  refine T_bipush (pc := 12) C dX8_dropWalk_12 (by decide) ?_
  refine T_imul (pc := 14) C dX8_dropWalk_14 ?_
  refine T_iload_n (pc := 15) C dX8_dropWalk_15 rfl 3 rfl ?_
  refine T_iadd (pc := 16) C dX8_dropWalk_16 ?_
  refine T_iconst (pc := 17) C dX8_dropWalk_17 ?_
  refine T_guard (fun g2 => ?_)
  refine Tc_iast (pc := 18) C (r0 + 3) 21 100 ((x1 * 10) + x2).toNat (kd_8 k0).2.2.1 ⟨by decide, by decide⟩ rfl g2 rfl (rngL rfl) dX8_dropWalk_18 ?_
  refine T_blS (fun s3 => ?_)
  refine T_aload_n (pc := 19) C dX8_dropWalk_19 rfl 1 rfl ?_
  refine Tc_getr (pc := 20) C r0 8 6 10 k0 (by decide) (fun _ => rfl) rfl inX8 (by decide) (v := .ref (ad (r0 + 3))) rfl kc_146 dX8_dropWalk_20 ?_
  refine T_iload_n (pc := 23) C dX8_dropWalk_23 rfl 3 rfl ?_
  refine T_bipush (pc := 24) C dX8_dropWalk_24 (by decide) ?_
  refine T_imul (pc := 26) C dX8_dropWalk_26 ?_
  refine T_iload_n (pc := 27) C dX8_dropWalk_27 rfl 2 rfl ?_
  refine T_iadd (pc := 28) C dX8_dropWalk_28 ?_
  refine T_iconst (pc := 29) C dX8_dropWalk_29 ?_
  refine T_guard (fun g4 => ?_)
  refine Tc_iast (pc := 30) C (r0 + 3) 21 100 ((x2 * 10) + x1).toNat (kd_8 k0).2.2.1 ⟨by decide, by decide⟩ rfl g4 rfl (rngL rfl) dX8_dropWalk_30 ?_
  refine T_blS (fun s5 => ?_)
  refine T_aload_n (pc := 31) C dX8_dropWalk_31 rfl 1 rfl ?_
  refine T_dup (pc := 32) C dX8_dropWalk_32 rfl ?_
  refine Tc_geti (pc := 33) C r0 8 5 10 k0 (by decide) (fun _ => rfl) rfl inX8 (by decide) rfl kc_266 dX8_dropWalk_33 (fun z6 => ?_)
  refine T_iconst (pc := 36) C dX8_dropWalk_36 ?_
  refine T_isub (pc := 37) C dX8_dropWalk_37 ?_
  refine T_guard (fun g7 => ?_)
  refine Tc_put (pc := 38) C (ty := .int) r0 8 5 10 k0 (by decide) (fun _ => rfl) rfl inX8 (by decide) (fun _ => rfl) ⟨g7, fun e9 => absurd e9 (by decide)⟩ tyX8 tyX8_ok nmX8 rfl (Nat.le_of_ble_eq_true rfl) kc_266 rfl (nar_I _) (fit_I _) dX8_dropWalk_38 ?_
  refine T_blS (fun s8 => ?_)
  refine T_iload_n (pc := 41) C dX8_dropWalk_41 rfl 0 rfl ?_
  exact T_iret (pc := 42) (s8, v1) (fun h9 => h9) hv1.1 (nar_I _) (by decide) dX8_dropWalk_42

abbrev rm_X8_lineFault : Room := ⟨0, 0, 0, 0⟩
theorem cm_X8_lineFault : cmV yX8_lineFault cX8_lineFault 5 (some (.object "RingTransit$Fault")) 4 := ⟨kc_51, kc_147, ⟨by decide +kernel, by decide +kernel, by decide +kernel⟩, kc_326, kc_327⟩
def f_X8_lineFault (σ : Sm) (r0 : Nat) (x1 : Int) (x2 : Int) (x3 : Int) (x4 : Int) : Option Int :=
  (if x1 < 1 then some 2 else (if 60 < x1 then some 2 else (if x2 < 0 then some 2 else (if x2 ≤ 59 then (if x3 < 1 then some 2 else (if 9 < x3 then some 2 else (if x4 < 1 then some 2 else (if x4 ≤ 20 then (if 5 ≤ (σ r0 7) then some 3 else some 0) else some 2)))) else some 2))))
theorem ct_X8_lineFault {l : Launch} {cy : Nat → ClassId} {ad : Nat → Nat} {E : Nat → Nat → Nat} {G : va_G} {Z : vZ} (zk : Zk Z E) (σ : Sm) (r0 : Nat) (x1 : Int) (x2 : Int) (x3 : Int) (x4 : Int) (k0 : kd r0 = 8) (h1 : rng x1) (h2 : rng x2) (h3 : rng x3) (h4 : rng x4) (hw : wfc σ) (o : Int) (h : f_X8_lineFault σ r0 x1 x2 x3 x4 = some o) : CzE Z E 0 6 l yX8_lineFault cX8_lineFault 5 (some (.object "RingTransit$Fault")) rm_X8_lineFault (wlc cy ad E) wfc G (tyc cy) [.ref (ad r0), vi x1, vi x2, vi x3, vi x4] σ σ o := by
  refine czE_of zk.1 (plainFor_of_name (by decide)) (Nat.le_of_ble_eq_true rfl) hw (σ, o) o h (fun X Y v => EndE E 0 6 X Y cX8_lineFault rm_X8_lineFault (σ, v)) (fun _ _ h => h) (fun X A Q hZ hX C => ?_)
  replace C : Cx X (Yc cy ad E G A 5 Q) cX8_lineFault RX8 (some (.object "RingTransit$Fault")) rm_X8_lineFault (tyc cy) := C
  replace hZ : Zx Z X (Yc cy ad E G A 5 Q) := hZ
  show T X (Yc cy ad E G A 5 Q) (fun v => EndE E 0 6 X (Yc cy ad E G A 5 Q) cX8_lineFault rm_X8_lineFault (σ, v)) 0 0 0 [(0, .ref (ad r0)), (1, vi x1), (2, vi x2), (3, vi x3), (4, vi x4)] [] σ (f_X8_lineFault σ r0 x1 x2 x3 x4)
  unfold f_X8_lineFault
  refine T_iload_n (pc := 0) C dX8_lineFault_0 rfl 1 rfl ?_
  refine T_iconst (pc := 1) C dX8_lineFault_1 ?_
  refine T_icmp_lt (pc := 2) C 21 dX8_lineFault_2 rfl h1 (rngL rfl) (fun c1 => ?_) (fun c1 => ?_)
  · refine T_gets zk.2 hZ (pc := 21) C 2 2 rfl (by decide) kc_311 dX8_lineFault_21 ?_
    exact T_eret (pc := 24) 2 (fun h9 => h9) (by decide) (by decide) dX8_lineFault_24
  · refine T_iload_n (pc := 5) C dX8_lineFault_5 rfl 1 rfl ?_
    refine T_bipush (pc := 6) C dX8_lineFault_6 (by decide) ?_
    refine T_icmp_gt (pc := 8) C 21 dX8_lineFault_8 rfl h1 (rngL rfl) (fun c2 => ?_) (fun c2 => ?_)
    · refine T_gets zk.2 hZ (pc := 21) C 2 2 rfl (by decide) kc_311 dX8_lineFault_21 ?_
      exact T_eret (pc := 24) 2 (fun h9 => h9) (by decide) (by decide) dX8_lineFault_24
    · refine T_iload_n (pc := 11) C dX8_lineFault_11 rfl 2 rfl ?_
      refine T_if_lt (pc := 12) C 21 dX8_lineFault_12 rfl h2 (fun c3 => ?_) (fun c3 => ?_)
      · refine T_gets zk.2 hZ (pc := 21) C 2 2 rfl (by decide) kc_311 dX8_lineFault_21 ?_
        exact T_eret (pc := 24) 2 (fun h9 => h9) (by decide) (by decide) dX8_lineFault_24
      · refine T_iload_n (pc := 15) C dX8_lineFault_15 rfl 2 rfl ?_
        refine T_bipush (pc := 16) C dX8_lineFault_16 (by decide) ?_
        refine T_icmp_le (pc := 18) C 25 dX8_lineFault_18 rfl h2 (rngL rfl) (fun c4 => ?_) (fun c4 => ?_)
        · refine T_iload_n (pc := 25) C dX8_lineFault_25 rfl 3 rfl ?_
          refine T_iconst (pc := 26) C dX8_lineFault_26 ?_
          refine T_icmp_lt (pc := 27) C 49 dX8_lineFault_27 rfl h3 (rngL rfl) (fun c5 => ?_) (fun c5 => ?_)
          · refine T_gets zk.2 hZ (pc := 49) C 2 2 rfl (by decide) kc_311 dX8_lineFault_49 ?_
            exact T_eret (pc := 52) 2 (fun h9 => h9) (by decide) (by decide) dX8_lineFault_52
          · refine T_iload_n (pc := 30) C dX8_lineFault_30 rfl 3 rfl ?_
            refine T_bipush (pc := 31) C dX8_lineFault_31 (by decide) ?_
            refine T_icmp_gt (pc := 33) C 49 dX8_lineFault_33 rfl h3 (rngL rfl) (fun c6 => ?_) (fun c6 => ?_)
            · refine T_gets zk.2 hZ (pc := 49) C 2 2 rfl (by decide) kc_311 dX8_lineFault_49 ?_
              exact T_eret (pc := 52) 2 (fun h9 => h9) (by decide) (by decide) dX8_lineFault_52
            · refine T_iload (pc := 36) C dX8_lineFault_36 4 rfl ?_
              refine T_iconst (pc := 38) C dX8_lineFault_38 ?_
              refine T_icmp_lt (pc := 39) C 49 dX8_lineFault_39 rfl h4 (rngL rfl) (fun c7 => ?_) (fun c7 => ?_)
              · refine T_gets zk.2 hZ (pc := 49) C 2 2 rfl (by decide) kc_311 dX8_lineFault_49 ?_
                exact T_eret (pc := 52) 2 (fun h9 => h9) (by decide) (by decide) dX8_lineFault_52
              · refine T_iload (pc := 42) C dX8_lineFault_42 4 rfl ?_
                refine T_bipush (pc := 44) C dX8_lineFault_44 (by decide) ?_
                refine T_icmp_le (pc := 46) C 53 dX8_lineFault_46 rfl h4 (rngL rfl) (fun c8 => ?_) (fun c8 => ?_)
                · refine T_aload_n (pc := 53) C dX8_lineFault_53 rfl 0 rfl ?_
                  refine Tc_geti (pc := 54) C r0 8 7 10 k0 (by decide) (fun _ => rfl) rfl inX8 (by decide) rfl kc_267 dX8_lineFault_54 (fun z9 => ?_)
                  refine T_iconst (pc := 57) C dX8_lineFault_57 ?_
                  refine T_icmp_ge (pc := 58) C 67 dX8_lineFault_58 rfl z9.1 (rngL rfl) (fun c10 => ?_) (fun c10 => ?_)
                  · refine T_gets zk.2 hZ (pc := 67) C 3 3 rfl (by decide) kc_312 dX8_lineFault_67 ?_
                    exact T_eret (pc := 70) 3 (fun h9 => h9) (by decide) (by decide) dX8_lineFault_70
                  · refine T_gets zk.2 hZ (pc := 61) C 0 0 rfl (by decide) kc_301 dX8_lineFault_61 ?_
                    refine T_goto (pc := 64) C 70 dX8_lineFault_64 rfl ?_
                    exact T_eret (pc := 70) 0 (fun h9 => h9) (by decide) (by decide) dX8_lineFault_70
                · refine T_gets zk.2 hZ (pc := 49) C 2 2 rfl (by decide) kc_311 dX8_lineFault_49 ?_
                  exact T_eret (pc := 52) 2 (fun h9 => h9) (by decide) (by decide) dX8_lineFault_52
        · refine T_gets zk.2 hZ (pc := 21) C 2 2 rfl (by decide) kc_311 dX8_lineFault_21 ?_
          exact T_eret (pc := 24) 2 (fun h9 => h9) (by decide) (by decide) dX8_lineFault_24

abbrev rm_X8_putLine : Room := ⟨1, 0, 0, 24⟩
theorem cm_X8_putLine : cmV yX8_putLine cX8_putLine 5 (some .int) 4 := ⟨kc_52, kc_147, ⟨by decide +kernel, by decide +kernel, by decide +kernel⟩, kc_329, kc_330⟩
def f_X8_putLine (σ : Sm) (r0 : Nat) (x1 : Int) (x2 : Int) (x3 : Int) (x4 : Int) : Option (Sm × Int) :=
  (if (σ r0 7) < 5 then if 0 ≤ (σ r0 7) ∧ (σ r0 7) < 5 then (f_X7_begin σ (r0 + 23 + 2 * (σ r0 7).toNat) x1 x2 x3 x4).bind fun s6 => if rng ((s6 r0 7) + 1) then bl (upm s6 r0 7 ((s6 r0 7) + 1)) fun s9 => if rng ((s9 r0 7) - 1) then some (s9, ((s9 r0 7) - 1)) else none else none else none else some (σ, (-1)))
theorem ct_X8_putLine {l : Launch} {cy : Nat → ClassId} {ad : Nat → Nat} {E : Nat → Nat → Nat} {G : va_G} {Z : vZ} (zk : Zk Z E) (σ : Sm) (r0 : Nat) (x1 : Int) (x2 : Int) (x3 : Int) (x4 : Int) (k0 : kd r0 = 8) (h1 : rng x1) (h2 : rng x2) (h3 : rng x3) (h4 : rng x4) (hw : wfc σ) (o : Sm × Int) (h : f_X8_putLine σ r0 x1 x2 x3 x4 = some o) : CzI Z l yX8_putLine cX8_putLine 5 (some .int) rm_X8_putLine (wlc cy ad E) wfc G (tyc cy) [.ref (ad r0), vi x1, vi x2, vi x3, vi x4] σ o.1 o.2 := by
  refine czI_of zk.1 (plainFor_of_name (by decide)) (Nat.le_of_ble_eq_true rfl) hw o o h (fun X Y w => EndI X Y cX8_putLine rm_X8_putLine .int w) (fun _ _ h => h) (fun X A Q hZ hX C => ?_)
  replace C : Cx X (Yc cy ad E G A 5 Q) cX8_putLine RX8 (some .int) rm_X8_putLine (tyc cy) := C
  replace hZ : Zx Z X (Yc cy ad E G A 5 Q) := hZ
  show T X (Yc cy ad E G A 5 Q) (fun w => EndI X (Yc cy ad E G A 5 Q) cX8_putLine rm_X8_putLine .int w) 0 0 0 [(0, .ref (ad r0)), (1, vi x1), (2, vi x2), (3, vi x3), (4, vi x4)] [] σ (f_X8_putLine σ r0 x1 x2 x3 x4)
  unfold f_X8_putLine
  refine T_aload_n (pc := 0) C dX8_putLine_0 rfl 0 rfl ?_
  refine Tc_geti (pc := 1) C r0 8 7 10 k0 (by decide) (fun _ => rfl) rfl inX8 (by decide) rfl kc_267 dX8_putLine_1 (fun z1 => ?_)
  refine T_iconst (pc := 4) C dX8_putLine_4 ?_
  refine T_icmp_lt (pc := 5) C 10 dX8_putLine_5 rfl z1.1 (rngL rfl) (fun c2 => ?_) (fun c2 => ?_)
  · refine T_aload_n (pc := 10) C dX8_putLine_10 rfl 0 rfl ?_
    refine Tc_getr (pc := 11) C r0 8 8 10 k0 (by decide) (fun _ => rfl) rfl inX8 (by decide) (v := .ref (ad (r0 + 4))) rfl kc_268 dX8_putLine_11 ?_
    refine T_aload_n (pc := 14) C dX8_putLine_14 rfl 0 rfl ?_
    refine Tc_geti (pc := 15) C r0 8 7 10 k0 (by decide) (fun _ => rfl) rfl inX8 (by decide) rfl kc_267 dX8_putLine_15 (fun z3 => ?_)
    refine T_guard (fun g4 => ?_)
    refine Tc_ald27 (pc := 18) C r0 k0 g4 dX8_putLine_18 (fun y5 => ?_)
    refine T_iload_n (pc := 19) C dX8_putLine_19 rfl 1 rfl ?_
    refine T_iload_n (pc := 20) C dX8_putLine_20 rfl 2 rfl ?_
    refine T_iload_n (pc := 21) C dX8_putLine_21 rfl 3 rfl ?_
    refine T_iload (pc := 22) C dX8_putLine_22 4 rfl ?_
    refine T_czVv (pc := 24) zk.1 hZ C [vi x1, vi x2, vi x3, vi x4] [] (fun o h9 hw => ct_X7_begin zk σ (r0 + 23 + 2 * (σ r0 7).toNat) x1 x2 x3 x4 y5 h1 h2 h3 h4 hw o h9) kc_328 cm_X7_begin (rcc y5 (by decide) (fun _ => rfl) rfl) rfl rfl (Nat.le_of_ble_eq_true rfl) (by decide) (a' := 0) (b' := 0) ⟨rfl, rfl⟩ dX8_putLine_24 (fun s6 => ?_)
    refine T_aload_n (pc := 27) C dX8_putLine_27 rfl 0 rfl ?_
    refine T_dup (pc := 28) C dX8_putLine_28 rfl ?_
    refine Tc_geti (pc := 29) C r0 8 7 10 k0 (by decide) (fun _ => rfl) rfl inX8 (by decide) rfl kc_267 dX8_putLine_29 (fun z7 => ?_)
    refine T_iconst (pc := 32) C dX8_putLine_32 ?_
    refine T_iadd (pc := 33) C dX8_putLine_33 ?_
    refine T_guard (fun g8 => ?_)
    refine Tc_put (pc := 34) C (ty := .int) r0 8 7 10 k0 (by decide) (fun _ => rfl) rfl inX8 (by decide) (fun _ => rfl) ⟨g8, fun e9 => absurd e9 (by decide)⟩ tyX8 tyX8_ok nmX8 rfl (Nat.le_of_ble_eq_true rfl) kc_267 rfl (nar_I _) (fit_I _) dX8_putLine_34 ?_
    refine T_blS (fun s9 => ?_)
    refine T_aload_n (pc := 37) C dX8_putLine_37 rfl 0 rfl ?_
    refine Tc_geti (pc := 38) C r0 8 7 10 k0 (by decide) (fun _ => rfl) rfl inX8 (by decide) rfl kc_267 dX8_putLine_38 (fun z10 => ?_)
    refine T_iconst (pc := 41) C dX8_putLine_41 ?_
    refine T_isub (pc := 42) C dX8_putLine_42 ?_
    refine T_guard (fun g11 => ?_)
    exact T_iret (pc := 43) (s9, ((s9 r0 7) - 1)) (fun h9 => h9) g11 (nar_I _) (by decide) dX8_putLine_43
  · refine T_iconst (pc := 8) C dX8_putLine_8 ?_
    exact T_iret (pc := 9) (σ, (-1)) (fun h9 => h9) (rngL rfl) (nar_I _) (by decide) dX8_putLine_9

abbrev rm_X11_countOfLine : Room := ⟨0, 0, 0, 0⟩
theorem cm_X11_countOfLine : cmV yX11_countOfLine cX11_countOfLine 4 (some .int) 1 := ⟨kc_87, kc_251, ⟨by decide +kernel, by decide +kernel, by decide +kernel⟩, kc_332, kc_333⟩
def f_X11_countOfLine_4 (σ : Sm) (r0 : Nat) (x1 : Int) : Nat → Int → Int → Option (Int)
  | 0, _, _ => none
  | n + 1, x2, x3 => (if (σ r0 1) ≤ x3 then some x2 else if 0 ≤ x3 ∧ x3 < 16 then (if (σ (σ (r0 + 1) x3.toNat).toNat 1) = x1 then if rng (x2 + 1) then f_X11_countOfLine_4 σ r0 x1 n (x2 + 1) (x3 + 1) else none else f_X11_countOfLine_4 σ r0 x1 n x2 (x3 + 1)) else none)
theorem lp_X11_countOfLine_4 {X : vjX} {A : Nat → Prop} {Q : State → Prop} {cy : Nat → ClassId} {ad : Nat → Nat} {E : Nat → Nat → Nat} {G : va_G} {Z : vZ} (zk : Zk Z E) (hZ : Zx Z X (Yc cy ad E G A 4 Q)) (C : Cx X (Yc cy ad E G A 4 Q) cX11_countOfLine RX11 (some .int) rm_X11_countOfLine (tyc cy)) (σ : Sm) (r0 : Nat) (k0 : kd r0 = 11) (x1 : Int) (h1 : rng x1) : ∀ (n : Nat) (x2 : Int) (x3 : Int) (h2 : rng x2) (h3 : rng x3), T X (Yc cy ad E G A 4 Q) (fun (q : Int) => rng q → J X (Yc cy ad E G A 4 Q) 0 0 34 [(2, vi q)] [] σ) 0 0 4 [(0, .ref (ad r0)), (1, vi x1), (2, vi x2), (3, vi x3)] [] σ (f_X11_countOfLine_4 σ r0 x1 n x2 x3) := by
  intro n
  induction n with
  | zero => intro x2 x3 h2 h3; exact T_none
  | succ n ih =>
    intro x2 x3 h2 h3
    rw [f_X11_countOfLine_4]
    refine T_iload_n (pc := 4) C dX11_countOfLine_4 rfl 3 rfl ?_
    refine T_aload_n (pc := 5) C dX11_countOfLine_5 rfl 0 rfl ?_
    refine Tc_geti (pc := 6) C r0 11 1 6 k0 (by decide) (fun _ => rfl) rfl inX11 (by decide) rfl kc_244 dX11_countOfLine_6 (fun z15 => ?_)
    refine T_icmp_ge (pc := 9) C 34 dX11_countOfLine_9 rfl h3 z15 (fun c16 => ?_) (fun c16 => ?_)
    · refine T_sub (L' := [(2, vi x2)]) [2] rfl ?_
      exact T_exit (fun h9 => h9 h2)
    · refine T_aload_n (pc := 12) C dX11_countOfLine_12 rfl 0 rfl ?_
      refine Tc_getr (pc := 13) C r0 11 0 6 k0 (by decide) (fun _ => rfl) rfl inX11 (by decide) (v := .ref (ad (r0 + 1))) rfl kc_249 dX11_countOfLine_13 ?_
      refine T_iload_n (pc := 16) C dX11_countOfLine_16 rfl 3 rfl ?_
      refine T_guard (fun g17 => ?_)
      refine Tc_ald28 (pc := 17) C (r0 + 1) x3.toNat (kd_11 k0) g17 rfl dX11_countOfLine_17 (fun y18 => ?_)
      refine Tc_geti (pc := 18) C (σ (r0 + 1) x3.toNat).toNat 10 1 6 y18.2 (by decide) (fun _ => rfl) rfl inX10 (by decide) rfl kc_331 dX11_countOfLine_18 (fun z19 => ?_)
      refine T_iload_n (pc := 21) C dX11_countOfLine_21 rfl 1 rfl ?_
      refine T_icmp_ne (pc := 22) C 28 dX11_countOfLine_22 rfl z19 h1 (fun c20 => ?_) (fun c20 => ?_)
      · refine T_iinc (pc := 28) (L' := [(3, vi (x3 + 1)), (0, .ref (ad r0)), (1, vi x1), (2, vi x2)]) C dX11_countOfLine_28 (Nat.le_of_ble_eq_true rfl) 3 rfl rfl ?_
        refine T_goto (pc := 31) C 4 dX11_countOfLine_31 rfl ?_
        refine T_sub (L' := [(0, .ref (ad r0)), (1, vi x1), (2, vi x2), (3, vi (x3 + 1))]) [1, 2, 3, 0] rfl ?_
        exact ih x2 (x3 + 1) h2 (rng_inc c16 h3 z15)
      · refine T_iinc (pc := 25) (L' := [(2, vi (x2 + 1)), (0, .ref (ad r0)), (1, vi x1), (3, vi x3)]) C dX11_countOfLine_25 (Nat.le_of_ble_eq_true rfl) 2 rfl rfl ?_
        refine T_iinc (pc := 28) (L' := [(3, vi (x3 + 1)), (2, vi (x2 + 1)), (0, .ref (ad r0)), (1, vi x1)]) C dX11_countOfLine_28 (Nat.le_of_ble_eq_true rfl) 3 rfl rfl ?_
        refine T_goto (pc := 31) C 4 dX11_countOfLine_31 rfl ?_
        refine T_sub (L' := [(0, .ref (ad r0)), (1, vi x1), (2, vi (x2 + 1)), (3, vi (x3 + 1))]) [2, 3, 1, 0] rfl ?_
        refine T_guard (fun g21 => ?_)
        exact ih (x2 + 1) (x3 + 1) g21 (rng_inc c16 h3 z15)
def f_X11_countOfLine (N : Nat) (σ : Sm) (r0 : Nat) (x1 : Int) : Option Int :=
  (f_X11_countOfLine_4 σ r0 x1 N 0 0).bind fun q22 => some q22
theorem ct_X11_countOfLine {l : Launch} {cy : Nat → ClassId} {ad : Nat → Nat} {E : Nat → Nat → Nat} {G : va_G} {Z : vZ} (zk : Zk Z E) (N : Nat) (σ : Sm) (r0 : Nat) (x1 : Int) (k0 : kd r0 = 11) (h1 : rng x1) (hw : wfc σ) (o : Int) (h : f_X11_countOfLine N σ r0 x1 = some o) : CzI Z l yX11_countOfLine cX11_countOfLine 4 (some .int) rm_X11_countOfLine (wlc cy ad E) wfc G (tyc cy) [.ref (ad r0), vi x1] σ σ o := by
  refine czI_of zk.1 (plainFor_of_name (by decide)) (Nat.le_of_ble_eq_true rfl) hw (σ, o) o h (fun X Y v => EndI X Y cX11_countOfLine rm_X11_countOfLine .int (σ, v)) (fun _ _ h => h) (fun X A Q hZ hX C => ?_)
  replace C : Cx X (Yc cy ad E G A 4 Q) cX11_countOfLine RX11 (some .int) rm_X11_countOfLine (tyc cy) := C
  replace hZ : Zx Z X (Yc cy ad E G A 4 Q) := hZ
  show T X (Yc cy ad E G A 4 Q) (fun v => EndI X (Yc cy ad E G A 4 Q) cX11_countOfLine rm_X11_countOfLine .int (σ, v)) 0 0 0 [(0, .ref (ad r0)), (1, vi x1)] [] σ (f_X11_countOfLine N σ r0 x1)
  unfold f_X11_countOfLine
  refine T_iconst (pc := 0) C dX11_countOfLine_0 ?_
  refine T_istore_n (pc := 1) (L' := [(2, vi 0), (0, .ref (ad r0)), (1, vi x1)]) C dX11_countOfLine_1 rfl (Nat.le_of_ble_eq_true rfl) rfl ?_
  refine T_iconst (pc := 2) C dX11_countOfLine_2 ?_
  refine T_istore_n (pc := 3) (L' := [(3, vi 0), (2, vi 0), (0, .ref (ad r0)), (1, vi x1)]) C dX11_countOfLine_3 rfl (Nat.le_of_ble_eq_true rfl) rfl ?_
  refine T_sub (L' := [(0, .ref (ad r0)), (1, vi x1), (2, vi 0), (3, vi 0)]) [2, 3, 1, 0] rfl ?_
  refine T_loopE (lp_X11_countOfLine_4 zk hZ C σ r0 k0 x1 h1 N 0 0 (rngL rfl) (rngL rfl)) (fun q22 hq22 => ?_)
  refine T_iload_n (pc := 34) C dX11_countOfLine_34 rfl 0 rfl ?_
  exact T_iret (pc := 35) q22 (fun h9 => h9) hq22 (nar_I _) (by decide) dX11_countOfLine_35

abbrev rm_X8_extensionFault : Room := ⟨1, 0, 0, 23⟩
theorem cm_X8_extensionFault : cmV yX8_extensionFault cX8_extensionFault 3 (some (.object "RingTransit$Fault")) 2 := ⟨kc_53, kc_147, ⟨by decide +kernel, by decide +kernel, by decide +kernel⟩, kc_338, kc_339⟩
def f_X8_extensionFault (N : Nat) (σ : Sm) (r0 : Nat) (x1 : Int) (x2 : Int) : Option Int :=
  (f_X8_hasLine σ r0 x1).bind fun v1 => (if v1 = 0 then some 1 else (f_X8_hasStop σ r0 x2).bind fun v3 => (if v3 = 0 then some 1 else if 0 ≤ x1 ∧ x1 < 5 then (if 6 ≤ (σ (r0 + 23 + 2 * x1.toNat) 6) then some 3 else (f_X11_countOfLine N σ (r0 + 5) x1).bind fun v9 => (if v9 ≤ 0 then (f_X7_placeOf N σ (r0 + 23 + 2 * x1.toNat) x2).bind fun v12 => (if v12 = (-1) then some 0 else some 5) else some 3)) else none))
theorem ct_X8_extensionFault {l : Launch} {cy : Nat → ClassId} {ad : Nat → Nat} {E : Nat → Nat → Nat} {G : va_G} {Z : vZ} (zk : Zk Z E) (N : Nat) (σ : Sm) (r0 : Nat) (x1 : Int) (x2 : Int) (k0 : kd r0 = 8) (h1 : rng x1) (h2 : rng x2) (hw : wfc σ) (o : Int) (h : f_X8_extensionFault N σ r0 x1 x2 = some o) : CzE Z E 0 6 l yX8_extensionFault cX8_extensionFault 3 (some (.object "RingTransit$Fault")) rm_X8_extensionFault (wlc cy ad E) wfc G (tyc cy) [.ref (ad r0), vi x1, vi x2] σ σ o := by
  refine czE_of zk.1 (plainFor_of_name (by decide)) (Nat.le_of_ble_eq_true rfl) hw (σ, o) o h (fun X Y v => EndE E 0 6 X Y cX8_extensionFault rm_X8_extensionFault (σ, v)) (fun _ _ h => h) (fun X A Q hZ hX C => ?_)
  replace C : Cx X (Yc cy ad E G A 3 Q) cX8_extensionFault RX8 (some (.object "RingTransit$Fault")) rm_X8_extensionFault (tyc cy) := C
  replace hZ : Zx Z X (Yc cy ad E G A 3 Q) := hZ
  show T X (Yc cy ad E G A 3 Q) (fun v => EndE E 0 6 X (Yc cy ad E G A 3 Q) cX8_extensionFault rm_X8_extensionFault (σ, v)) 0 0 0 [(0, .ref (ad r0)), (1, vi x1), (2, vi x2)] [] σ (f_X8_extensionFault N σ r0 x1 x2)
  unfold f_X8_extensionFault
  refine T_aload_n (pc := 0) C dX8_extensionFault_0 rfl 0 rfl ?_
  refine T_iload_n (pc := 1) C dX8_extensionFault_1 rfl 1 rfl ?_
  refine T_czVip (pc := 2) zk.1 hZ C [vi x1] [] (fun o h9 hw => ct_X8_hasLine zk σ r0 x1 k0 h1 hw o h9) kc_306 cm_X8_hasLine (rcc k0 (by decide) (fun _ => rfl) rfl) rfl rfl (Nat.le_of_ble_eq_true rfl) (by decide) (a' := 0) (b' := 0) ⟨rfl, rfl⟩ dX8_extensionFault_2 (fun v1 hv1 => ?_)
  refine T_if_eq (pc := 5) C 16 dX8_extensionFault_5 rfl hv1.1 (fun c2 => ?_) (fun c2 => ?_)
  · refine T_gets zk.2 hZ (pc := 16) C 1 1 rfl (by decide) kc_300 dX8_extensionFault_16 ?_
    exact T_eret (pc := 19) 1 (fun h9 => h9) (by decide) (by decide) dX8_extensionFault_19
  · refine T_aload_n (pc := 8) C dX8_extensionFault_8 rfl 0 rfl ?_
    refine T_iload_n (pc := 9) C dX8_extensionFault_9 rfl 2 rfl ?_
    refine T_czVip (pc := 10) zk.1 hZ C [vi x2] [] (fun o h9 hw => ct_X8_hasStop zk σ r0 x2 k0 h2 hw o h9) kc_299 cm_X8_hasStop (rcc k0 (by decide) (fun _ => rfl) rfl) rfl rfl (Nat.le_of_ble_eq_true rfl) (by decide) (a' := 0) (b' := 0) ⟨rfl, rfl⟩ dX8_extensionFault_10 (fun v3 hv3 => ?_)
    refine T_if_ne (pc := 13) C 20 dX8_extensionFault_13 rfl hv3.1 (fun c4 => ?_) (fun c4 => ?_)
    · refine T_aload_n (pc := 20) C dX8_extensionFault_20 rfl 0 rfl ?_
      refine Tc_getr (pc := 21) C r0 8 8 10 k0 (by decide) (fun _ => rfl) rfl inX8 (by decide) (v := .ref (ad (r0 + 4))) rfl kc_268 dX8_extensionFault_21 ?_
      refine T_iload_n (pc := 24) C dX8_extensionFault_24 rfl 1 rfl ?_
      refine T_guard (fun g5 => ?_)
      refine Tc_ald27 (pc := 25) C r0 k0 g5 dX8_extensionFault_25 (fun y6 => ?_)
      refine Tc_geti (pc := 26) C (r0 + 23 + 2 * x1.toNat) 7 6 8 y6 (by decide) (fun _ => rfl) rfl inX7 (by decide) rfl kc_334 dX8_extensionFault_26 (fun z7 => ?_)
      refine T_bipush (pc := 29) C dX8_extensionFault_29 (by decide) ?_
      refine T_icmp_ge (pc := 31) C 45 dX8_extensionFault_31 rfl z7.1 (rngL rfl) (fun c8 => ?_) (fun c8 => ?_)
      · refine T_gets zk.2 hZ (pc := 45) C 3 3 rfl (by decide) kc_312 dX8_extensionFault_45 ?_
        exact T_eret (pc := 48) 3 (fun h9 => h9) (by decide) (by decide) dX8_extensionFault_48
      · refine T_aload_n (pc := 34) C dX8_extensionFault_34 rfl 0 rfl ?_
        refine Tc_getr (pc := 35) C r0 8 9 10 k0 (by decide) (fun _ => rfl) rfl inX8 (by decide) (v := .ref (ad (r0 + 5))) rfl kc_270 dX8_extensionFault_35 ?_
        refine T_iload_n (pc := 38) C dX8_extensionFault_38 rfl 1 rfl ?_
        refine T_czVip (pc := 39) zk.1 hZ C [vi x1] [] (fun o h9 hw => ct_X11_countOfLine zk N σ (r0 + 5) x1 (kd_8 k0).2.2.2.2.1 h1 hw o h9) kc_335 cm_X11_countOfLine (rcc (kd_8 k0).2.2.2.2.1 (by decide) (fun _ => rfl) rfl) rfl rfl (Nat.le_of_ble_eq_true rfl) (by decide) (a' := 0) (b' := 0) ⟨rfl, rfl⟩ dX8_extensionFault_39 (fun v9 hv9 => ?_)
        refine T_if_le (pc := 42) C 49 dX8_extensionFault_42 rfl hv9.1 (fun c10 => ?_) (fun c10 => ?_)
        · refine T_aload_n (pc := 49) C dX8_extensionFault_49 rfl 0 rfl ?_
          refine Tc_getr (pc := 50) C r0 8 8 10 k0 (by decide) (fun _ => rfl) rfl inX8 (by decide) (v := .ref (ad (r0 + 4))) rfl kc_268 dX8_extensionFault_50 ?_
          refine T_iload_n (pc := 53) C dX8_extensionFault_53 rfl 1 rfl ?_
          refine Tc_ald27 (pc := 54) C r0 k0 g5 dX8_extensionFault_54 (fun y11 => ?_)
          refine T_iload_n (pc := 55) C dX8_extensionFault_55 rfl 2 rfl ?_
          refine T_czVip (pc := 56) zk.1 hZ C [vi x2] [] (fun o h9 hw => ct_X7_placeOf zk N σ (r0 + 23 + 2 * x1.toNat) x2 y11 h2 hw o h9) kc_336 cm_X7_placeOf (rcc y11 (by decide) (fun _ => rfl) rfl) rfl rfl (Nat.le_of_ble_eq_true rfl) (by decide) (a' := 0) (b' := 0) ⟨rfl, rfl⟩ dX8_extensionFault_56 (fun v12 hv12 => ?_)
          refine T_iconst (pc := 59) C dX8_extensionFault_59 ?_
          refine T_icmp_ne (pc := 60) C 69 dX8_extensionFault_60 rfl hv12.1 (rngL rfl) (fun c13 => ?_) (fun c13 => ?_)
          · refine T_gets zk.2 hZ (pc := 69) C 5 5 rfl (by decide) kc_337 dX8_extensionFault_69 ?_
            exact T_eret (pc := 72) 5 (fun h9 => h9) (by decide) (by decide) dX8_extensionFault_72
          · refine T_gets zk.2 hZ (pc := 63) C 0 0 rfl (by decide) kc_301 dX8_extensionFault_63 ?_
            refine T_goto (pc := 66) C 72 dX8_extensionFault_66 rfl ?_
            exact T_eret (pc := 72) 0 (fun h9 => h9) (by decide) (by decide) dX8_extensionFault_72
        · refine T_gets zk.2 hZ (pc := 45) C 3 3 rfl (by decide) kc_312 dX8_extensionFault_45 ?_
          exact T_eret (pc := 48) 3 (fun h9 => h9) (by decide) (by decide) dX8_extensionFault_48
    · refine T_gets zk.2 hZ (pc := 16) C 1 1 rfl (by decide) kc_300 dX8_extensionFault_16 ?_
      exact T_eret (pc := 19) 1 (fun h9 => h9) (by decide) (by decide) dX8_extensionFault_19

abbrev rm_X8_shorteningFault : Room := ⟨1, 0, 0, 23⟩
theorem cm_X8_shorteningFault : cmV yX8_shorteningFault cX8_shorteningFault 2 (some (.object "RingTransit$Fault")) 1 := ⟨kc_54, kc_147, ⟨by decide +kernel, by decide +kernel, by decide +kernel⟩, kc_340, kc_341⟩
def f_X8_shorteningFault (N : Nat) (σ : Sm) (r0 : Nat) (x1 : Int) : Option Int :=
  (f_X8_hasLine σ r0 x1).bind fun v1 => (if v1 = 0 then some 1 else if 0 ≤ x1 ∧ x1 < 5 then (if (σ (r0 + 23 + 2 * x1.toNat) 6) = 0 then some 4 else (f_X11_countOfLine N σ (r0 + 5) x1).bind fun v7 => (if v7 = 0 then some 0 else some 3)) else none)
theorem ct_X8_shorteningFault {l : Launch} {cy : Nat → ClassId} {ad : Nat → Nat} {E : Nat → Nat → Nat} {G : va_G} {Z : vZ} (zk : Zk Z E) (N : Nat) (σ : Sm) (r0 : Nat) (x1 : Int) (k0 : kd r0 = 8) (h1 : rng x1) (hw : wfc σ) (o : Int) (h : f_X8_shorteningFault N σ r0 x1 = some o) : CzE Z E 0 6 l yX8_shorteningFault cX8_shorteningFault 2 (some (.object "RingTransit$Fault")) rm_X8_shorteningFault (wlc cy ad E) wfc G (tyc cy) [.ref (ad r0), vi x1] σ σ o := by
  refine czE_of zk.1 (plainFor_of_name (by decide)) (Nat.le_of_ble_eq_true rfl) hw (σ, o) o h (fun X Y v => EndE E 0 6 X Y cX8_shorteningFault rm_X8_shorteningFault (σ, v)) (fun _ _ h => h) (fun X A Q hZ hX C => ?_)
  replace C : Cx X (Yc cy ad E G A 2 Q) cX8_shorteningFault RX8 (some (.object "RingTransit$Fault")) rm_X8_shorteningFault (tyc cy) := C
  replace hZ : Zx Z X (Yc cy ad E G A 2 Q) := hZ
  show T X (Yc cy ad E G A 2 Q) (fun v => EndE E 0 6 X (Yc cy ad E G A 2 Q) cX8_shorteningFault rm_X8_shorteningFault (σ, v)) 0 0 0 [(0, .ref (ad r0)), (1, vi x1)] [] σ (f_X8_shorteningFault N σ r0 x1)
  unfold f_X8_shorteningFault
  refine T_aload_n (pc := 0) C dX8_shorteningFault_0 rfl 0 rfl ?_
  refine T_iload_n (pc := 1) C dX8_shorteningFault_1 rfl 1 rfl ?_
  refine T_czVip (pc := 2) zk.1 hZ C [vi x1] [] (fun o h9 hw => ct_X8_hasLine zk σ r0 x1 k0 h1 hw o h9) kc_306 cm_X8_hasLine (rcc k0 (by decide) (fun _ => rfl) rfl) rfl rfl (Nat.le_of_ble_eq_true rfl) (by decide) (a' := 0) (b' := 0) ⟨rfl, rfl⟩ dX8_shorteningFault_2 (fun v1 hv1 => ?_)
  refine T_if_ne (pc := 5) C 12 dX8_shorteningFault_5 rfl hv1.1 (fun c2 => ?_) (fun c2 => ?_)
  · refine T_aload_n (pc := 12) C dX8_shorteningFault_12 rfl 0 rfl ?_
    refine Tc_getr (pc := 13) C r0 8 8 10 k0 (by decide) (fun _ => rfl) rfl inX8 (by decide) (v := .ref (ad (r0 + 4))) rfl kc_268 dX8_shorteningFault_13 ?_
    refine T_iload_n (pc := 16) C dX8_shorteningFault_16 rfl 1 rfl ?_
    refine T_guard (fun g3 => ?_)
    refine Tc_ald27 (pc := 17) C r0 k0 g3 dX8_shorteningFault_17 (fun y4 => ?_)
    refine Tc_geti (pc := 18) C (r0 + 23 + 2 * x1.toNat) 7 6 8 y4 (by decide) (fun _ => rfl) rfl inX7 (by decide) rfl kc_334 dX8_shorteningFault_18 (fun z5 => ?_)
    refine T_if_ne (pc := 21) C 28 dX8_shorteningFault_21 rfl z5.1 (fun c6 => ?_) (fun c6 => ?_)
    · refine T_aload_n (pc := 28) C dX8_shorteningFault_28 rfl 0 rfl ?_
      refine Tc_getr (pc := 29) C r0 8 9 10 k0 (by decide) (fun _ => rfl) rfl inX8 (by decide) (v := .ref (ad (r0 + 5))) rfl kc_270 dX8_shorteningFault_29 ?_
      refine T_iload_n (pc := 32) C dX8_shorteningFault_32 rfl 1 rfl ?_
      refine T_czVip (pc := 33) zk.1 hZ C [vi x1] [] (fun o h9 hw => ct_X11_countOfLine zk N σ (r0 + 5) x1 (kd_8 k0).2.2.2.2.1 h1 hw o h9) kc_335 cm_X11_countOfLine (rcc (kd_8 k0).2.2.2.2.1 (by decide) (fun _ => rfl) rfl) rfl rfl (Nat.le_of_ble_eq_true rfl) (by decide) (a' := 0) (b' := 0) ⟨rfl, rfl⟩ dX8_shorteningFault_33 (fun v7 hv7 => ?_)
      refine T_if_ne (pc := 36) C 45 dX8_shorteningFault_36 rfl hv7.1 (fun c8 => ?_) (fun c8 => ?_)
      · refine T_gets zk.2 hZ (pc := 45) C 3 3 rfl (by decide) kc_312 dX8_shorteningFault_45 ?_
        exact T_eret (pc := 48) 3 (fun h9 => h9) (by decide) (by decide) dX8_shorteningFault_48
      · refine T_gets zk.2 hZ (pc := 39) C 0 0 rfl (by decide) kc_301 dX8_shorteningFault_39 ?_
        refine T_goto (pc := 42) C 48 dX8_shorteningFault_42 rfl ?_
        exact T_eret (pc := 48) 0 (fun h9 => h9) (by decide) (by decide) dX8_shorteningFault_48
    · refine T_gets zk.2 hZ (pc := 24) C 4 4 rfl (by decide) kc_321 dX8_shorteningFault_24 ?_
      exact T_eret (pc := 27) 4 (fun h9 => h9) (by decide) (by decide) dX8_shorteningFault_27
  · refine T_gets zk.2 hZ (pc := 8) C 1 1 rfl (by decide) kc_300 dX8_shorteningFault_8 ?_
    exact T_eret (pc := 11) 1 (fun h9 => h9) (by decide) (by decide) dX8_shorteningFault_11

abbrev rm_X8_delayFault : Room := ⟨1, 0, 0, 21⟩
theorem cm_X8_delayFault : cmV yX8_delayFault cX8_delayFault 3 (some (.object "RingTransit$Fault")) 2 := ⟨kc_55, kc_147, ⟨by decide +kernel, by decide +kernel, by decide +kernel⟩, kc_342, kc_343⟩
def f_X8_delayFault (σ : Sm) (r0 : Nat) (x1 : Int) (x2 : Int) : Option Int :=
  (f_X8_hasLine σ r0 x1).bind fun v1 => (if v1 = 0 then some 1 else (if x2 < 0 then some 2 else (if 5 < x2 then some 2 else some 0)))
theorem ct_X8_delayFault {l : Launch} {cy : Nat → ClassId} {ad : Nat → Nat} {E : Nat → Nat → Nat} {G : va_G} {Z : vZ} (zk : Zk Z E) (σ : Sm) (r0 : Nat) (x1 : Int) (x2 : Int) (k0 : kd r0 = 8) (h1 : rng x1) (h2 : rng x2) (hw : wfc σ) (o : Int) (h : f_X8_delayFault σ r0 x1 x2 = some o) : CzE Z E 0 6 l yX8_delayFault cX8_delayFault 3 (some (.object "RingTransit$Fault")) rm_X8_delayFault (wlc cy ad E) wfc G (tyc cy) [.ref (ad r0), vi x1, vi x2] σ σ o := by
  refine czE_of zk.1 (plainFor_of_name (by decide)) (Nat.le_of_ble_eq_true rfl) hw (σ, o) o h (fun X Y v => EndE E 0 6 X Y cX8_delayFault rm_X8_delayFault (σ, v)) (fun _ _ h => h) (fun X A Q hZ hX C => ?_)
  replace C : Cx X (Yc cy ad E G A 3 Q) cX8_delayFault RX8 (some (.object "RingTransit$Fault")) rm_X8_delayFault (tyc cy) := C
  replace hZ : Zx Z X (Yc cy ad E G A 3 Q) := hZ
  show T X (Yc cy ad E G A 3 Q) (fun v => EndE E 0 6 X (Yc cy ad E G A 3 Q) cX8_delayFault rm_X8_delayFault (σ, v)) 0 0 0 [(0, .ref (ad r0)), (1, vi x1), (2, vi x2)] [] σ (f_X8_delayFault σ r0 x1 x2)
  unfold f_X8_delayFault
  refine T_aload_n (pc := 0) C dX8_delayFault_0 rfl 0 rfl ?_
  refine T_iload_n (pc := 1) C dX8_delayFault_1 rfl 1 rfl ?_
  refine T_czVip (pc := 2) zk.1 hZ C [vi x1] [] (fun o h9 hw => ct_X8_hasLine zk σ r0 x1 k0 h1 hw o h9) kc_306 cm_X8_hasLine (rcc k0 (by decide) (fun _ => rfl) rfl) rfl rfl (Nat.le_of_ble_eq_true rfl) (by decide) (a' := 0) (b' := 0) ⟨rfl, rfl⟩ dX8_delayFault_2 (fun v1 hv1 => ?_)
  refine T_if_ne (pc := 5) C 12 dX8_delayFault_5 rfl hv1.1 (fun c2 => ?_) (fun c2 => ?_)
  · refine T_iload_n (pc := 12) C dX8_delayFault_12 rfl 2 rfl ?_
    refine T_if_lt (pc := 13) C 27 dX8_delayFault_13 rfl h2 (fun c3 => ?_) (fun c3 => ?_)
    · refine T_gets zk.2 hZ (pc := 27) C 2 2 rfl (by decide) kc_311 dX8_delayFault_27 ?_
      exact T_eret (pc := 30) 2 (fun h9 => h9) (by decide) (by decide) dX8_delayFault_30
    · refine T_iload_n (pc := 16) C dX8_delayFault_16 rfl 2 rfl ?_
      refine T_iconst (pc := 17) C dX8_delayFault_17 ?_
      refine T_icmp_gt (pc := 18) C 27 dX8_delayFault_18 rfl h2 (rngL rfl) (fun c4 => ?_) (fun c4 => ?_)
      · refine T_gets zk.2 hZ (pc := 27) C 2 2 rfl (by decide) kc_311 dX8_delayFault_27 ?_
        exact T_eret (pc := 30) 2 (fun h9 => h9) (by decide) (by decide) dX8_delayFault_30
      · refine T_gets zk.2 hZ (pc := 21) C 0 0 rfl (by decide) kc_301 dX8_delayFault_21 ?_
        refine T_goto (pc := 24) C 30 dX8_delayFault_24 rfl ?_
        exact T_eret (pc := 30) 0 (fun h9 => h9) (by decide) (by decide) dX8_delayFault_30
  · refine T_gets zk.2 hZ (pc := 8) C 1 1 rfl (by decide) kc_300 dX8_delayFault_8 ?_
    exact T_eret (pc := 11) 1 (fun h9 => h9) (by decide) (by decide) dX8_delayFault_11

abbrev rm_X8_rideFault : Room := ⟨1, 0, 0, 21⟩
theorem cm_X8_rideFault : cmV yX8_rideFault cX8_rideFault 6 (some (.object "RingTransit$Fault")) 4 := ⟨kc_56, kc_147, ⟨by decide +kernel, by decide +kernel, by decide +kernel⟩, kc_344, kc_345⟩
def f_X8_rideFault (σ : Sm) (r0 : Nat) (x1 : Int) (x2 : Int) (x3 : Int) (x4 : Int) : Option Int :=
  (f_X8_hasLine σ r0 x1).bind fun v1 => (if v1 = 0 then some 1 else (if x3 < 0 then some 2 else (if x4 ≤ x3 then some 2 else if 0 ≤ x1 ∧ x1 < 5 then (if (σ (r0 + 23 + 2 * x1.toNat) 6) < x4 then some 2 else (if x2 < 0 then some 2 else (if 99 < x2 then some 2 else some 0))) else none)))
theorem ct_X8_rideFault {l : Launch} {cy : Nat → ClassId} {ad : Nat → Nat} {E : Nat → Nat → Nat} {G : va_G} {Z : vZ} (zk : Zk Z E) (σ : Sm) (r0 : Nat) (x1 : Int) (x2 : Int) (x3 : Int) (x4 : Int) (k0 : kd r0 = 8) (h1 : rng x1) (h2 : rng x2) (h3 : rng x3) (h4 : rng x4) (hw : wfc σ) (o : Int) (h : f_X8_rideFault σ r0 x1 x2 x3 x4 = some o) : CzE Z E 0 6 l yX8_rideFault cX8_rideFault 6 (some (.object "RingTransit$Fault")) rm_X8_rideFault (wlc cy ad E) wfc G (tyc cy) [.ref (ad r0), vi x1, vi x2, vi x3, vi x4] σ σ o := by
  refine czE_of zk.1 (plainFor_of_name (by decide)) (Nat.le_of_ble_eq_true rfl) hw (σ, o) o h (fun X Y v => EndE E 0 6 X Y cX8_rideFault rm_X8_rideFault (σ, v)) (fun _ _ h => h) (fun X A Q hZ hX C => ?_)
  replace C : Cx X (Yc cy ad E G A 6 Q) cX8_rideFault RX8 (some (.object "RingTransit$Fault")) rm_X8_rideFault (tyc cy) := C
  replace hZ : Zx Z X (Yc cy ad E G A 6 Q) := hZ
  show T X (Yc cy ad E G A 6 Q) (fun v => EndE E 0 6 X (Yc cy ad E G A 6 Q) cX8_rideFault rm_X8_rideFault (σ, v)) 0 0 0 [(0, .ref (ad r0)), (1, vi x1), (2, vi x2), (3, vi x3), (4, vi x4)] [] σ (f_X8_rideFault σ r0 x1 x2 x3 x4)
  unfold f_X8_rideFault
  refine T_aload_n (pc := 0) C dX8_rideFault_0 rfl 0 rfl ?_
  refine T_iload_n (pc := 1) C dX8_rideFault_1 rfl 1 rfl ?_
  refine T_czVip (pc := 2) zk.1 hZ C [vi x1] [] (fun o h9 hw => ct_X8_hasLine zk σ r0 x1 k0 h1 hw o h9) kc_306 cm_X8_hasLine (rcc k0 (by decide) (fun _ => rfl) rfl) rfl rfl (Nat.le_of_ble_eq_true rfl) (by decide) (a' := 0) (b' := 0) ⟨rfl, rfl⟩ dX8_rideFault_2 (fun v1 hv1 => ?_)
  refine T_if_ne (pc := 5) C 12 dX8_rideFault_5 rfl hv1.1 (fun c2 => ?_) (fun c2 => ?_)
  · refine T_iload_n (pc := 12) C dX8_rideFault_12 rfl 3 rfl ?_
    refine T_if_lt (pc := 13) C 40 dX8_rideFault_13 rfl h3 (fun c3 => ?_) (fun c3 => ?_)
    · refine T_iconst (pc := 40) C dX8_rideFault_40 ?_
      refine T_istore (pc := 41) (L' := [(5, vi 0), (0, .ref (ad r0)), (1, vi x1), (2, vi x2), (3, vi x3), (4, vi x4)]) C dX8_rideFault_41 (Nat.le_of_ble_eq_true rfl) rfl ?_
      refine T_iload (pc := 43) C dX8_rideFault_43 0 rfl ?_
      refine T_if_eq_t (pc := 45) C 64 dX8_rideFault_45 rfl (rngL rfl) (by decide) ?_
      refine T_gets zk.2 hZ (pc := 64) C 2 2 rfl (by decide) kc_311 dX8_rideFault_64 ?_
      exact T_eret (pc := 67) 2 (fun h9 => h9) (by decide) (by decide) dX8_rideFault_67
    · refine T_iload (pc := 16) C dX8_rideFault_16 4 rfl ?_
      refine T_iload_n (pc := 18) C dX8_rideFault_18 rfl 3 rfl ?_
      refine T_icmp_le (pc := 19) C 40 dX8_rideFault_19 rfl h4 h3 (fun c5 => ?_) (fun c5 => ?_)
      · refine T_iconst (pc := 40) C dX8_rideFault_40 ?_
        refine T_istore (pc := 41) (L' := [(5, vi 0), (0, .ref (ad r0)), (1, vi x1), (2, vi x2), (3, vi x3), (4, vi x4)]) C dX8_rideFault_41 (Nat.le_of_ble_eq_true rfl) rfl ?_
        refine T_iload (pc := 43) C dX8_rideFault_43 0 rfl ?_
        refine T_if_eq_t (pc := 45) C 64 dX8_rideFault_45 rfl (rngL rfl) (by decide) ?_
        refine T_gets zk.2 hZ (pc := 64) C 2 2 rfl (by decide) kc_311 dX8_rideFault_64 ?_
        exact T_eret (pc := 67) 2 (fun h9 => h9) (by decide) (by decide) dX8_rideFault_67
      · refine T_iload (pc := 22) C dX8_rideFault_22 4 rfl ?_
        refine T_aload_n (pc := 24) C dX8_rideFault_24 rfl 0 rfl ?_
        refine Tc_getr (pc := 25) C r0 8 8 10 k0 (by decide) (fun _ => rfl) rfl inX8 (by decide) (v := .ref (ad (r0 + 4))) rfl kc_268 dX8_rideFault_25 ?_
        refine T_iload_n (pc := 28) C dX8_rideFault_28 rfl 1 rfl ?_
        refine T_guard (fun g7 => ?_)
        refine Tc_ald27 (pc := 29) C r0 k0 g7 dX8_rideFault_29 (fun y8 => ?_)
        refine Tc_geti (pc := 30) C (r0 + 23 + 2 * x1.toNat) 7 6 8 y8 (by decide) (fun _ => rfl) rfl inX7 (by decide) rfl kc_334 dX8_rideFault_30 (fun z9 => ?_)
        refine T_icmp_gt (pc := 33) C 40 dX8_rideFault_33 rfl h4 z9.1 (fun c10 => ?_) (fun c10 => ?_)
        · refine T_iconst (pc := 40) C dX8_rideFault_40 ?_
          refine T_istore (pc := 41) (L' := [(5, vi 0), (0, .ref (ad r0)), (1, vi x1), (2, vi x2), (3, vi x3), (4, vi x4)]) C dX8_rideFault_41 (Nat.le_of_ble_eq_true rfl) rfl ?_
          refine T_iload (pc := 43) C dX8_rideFault_43 0 rfl ?_
          refine T_if_eq_t (pc := 45) C 64 dX8_rideFault_45 rfl (rngL rfl) (by decide) ?_
          refine T_gets zk.2 hZ (pc := 64) C 2 2 rfl (by decide) kc_311 dX8_rideFault_64 ?_
          exact T_eret (pc := 67) 2 (fun h9 => h9) (by decide) (by decide) dX8_rideFault_67
        · refine T_iconst (pc := 36) C dX8_rideFault_36 ?_
          refine T_goto (pc := 37) C 41 dX8_rideFault_37 rfl ?_
          refine T_istore (pc := 41) (L' := [(5, vi 1), (0, .ref (ad r0)), (1, vi x1), (2, vi x2), (3, vi x3), (4, vi x4)]) C dX8_rideFault_41 (Nat.le_of_ble_eq_true rfl) rfl ?_
          refine T_iload (pc := 43) C dX8_rideFault_43 0 rfl ?_
          refine T_if_eq_f (pc := 45) C 64 dX8_rideFault_45 rfl (rngL rfl) (by decide) ?_
          refine T_iload_n (pc := 48) C dX8_rideFault_48 rfl 3 rfl ?_
          refine T_if_lt (pc := 49) C 64 dX8_rideFault_49 rfl h2 (fun c13 => ?_) (fun c13 => ?_)
          · refine T_gets zk.2 hZ (pc := 64) C 2 2 rfl (by decide) kc_311 dX8_rideFault_64 ?_
            exact T_eret (pc := 67) 2 (fun h9 => h9) (by decide) (by decide) dX8_rideFault_67
          · refine T_iload_n (pc := 52) C dX8_rideFault_52 rfl 3 rfl ?_
            refine T_bipush (pc := 53) C dX8_rideFault_53 (by decide) ?_
            refine T_icmp_gt (pc := 55) C 64 dX8_rideFault_55 rfl h2 (rngL rfl) (fun c14 => ?_) (fun c14 => ?_)
            · refine T_gets zk.2 hZ (pc := 64) C 2 2 rfl (by decide) kc_311 dX8_rideFault_64 ?_
              exact T_eret (pc := 67) 2 (fun h9 => h9) (by decide) (by decide) dX8_rideFault_67
            · refine T_gets zk.2 hZ (pc := 58) C 0 0 rfl (by decide) kc_301 dX8_rideFault_58 ?_
              refine T_goto (pc := 61) C 67 dX8_rideFault_61 rfl ?_
              exact T_eret (pc := 67) 0 (fun h9 => h9) (by decide) (by decide) dX8_rideFault_67
  · refine T_gets zk.2 hZ (pc := 8) C 1 1 rfl (by decide) kc_300 dX8_rideFault_8 ?_
    exact T_eret (pc := 11) 1 (fun h9 => h9) (by decide) (by decide) dX8_rideFault_11

abbrev rm_J9_max_7cf53 : Room := ⟨0, 0, 0, 0⟩
theorem cm_J9_max_7cf53 : cmS yJ9_max_7cf53 cJ9_max_7cf53 2 (some .int) 2 := ⟨kc_91, kc_103, ⟨by decide +kernel, by decide +kernel, by decide +kernel⟩, kc_346⟩
def f_J9_max_7cf53 (x0 : Int) (x1 : Int) : Option Int :=
  (if x0 < x1 then some x1 else some x0)
theorem ct_J9_max_7cf53 {l : Launch} {cy : Nat → ClassId} {ad : Nat → Nat} {E : Nat → Nat → Nat} {G : va_G} {Z : vZ} (zk : Zk Z E) (σ : Sm) (x0 : Int) (x1 : Int) (h0 : rng x0) (h1 : rng x1) (hw : wfc σ) (o : Int) (h : f_J9_max_7cf53 x0 x1 = some o) : CzI Z l yJ9_max_7cf53 cJ9_max_7cf53 2 (some .int) rm_J9_max_7cf53 (wlc cy ad E) wfc G (tyc cy) [vi x0, vi x1] σ σ o := by
  refine czI_of zk.1 (by decide +kernel) (Nat.le_of_ble_eq_true rfl) hw (σ, o) o h (fun X Y v => EndI X Y cJ9_max_7cf53 rm_J9_max_7cf53 .int (σ, v)) (fun _ _ h => h) (fun X A Q hZ hX C => ?_)
  replace C : Cx X (Yc cy ad E G A 2 Q) cJ9_max_7cf53 RJ9 (some .int) rm_J9_max_7cf53 (tyc cy) := C
  replace hZ : Zx Z X (Yc cy ad E G A 2 Q) := hZ
  show T X (Yc cy ad E G A 2 Q) (fun v => EndI X (Yc cy ad E G A 2 Q) cJ9_max_7cf53 rm_J9_max_7cf53 .int (σ, v)) 0 0 0 [(0, vi x0), (1, vi x1)] [] σ (f_J9_max_7cf53 x0 x1)
  unfold f_J9_max_7cf53
  refine T_iload_n (pc := 0) C dJ9_max_7cf53_0 rfl 0 rfl ?_
  refine T_iload_n (pc := 1) C dJ9_max_7cf53_1 rfl 1 rfl ?_
  refine T_icmp_lt (pc := 2) C 9 dJ9_max_7cf53_2 rfl h0 h1 (fun c1 => ?_) (fun c1 => ?_)
  · refine T_iload_n (pc := 9) C dJ9_max_7cf53_9 rfl 1 rfl ?_
    exact T_iret (pc := 10) x1 (fun h9 => h9) h1 (nar_I _) (by decide) dJ9_max_7cf53_10
  · refine T_iload_n (pc := 5) C dJ9_max_7cf53_5 rfl 0 rfl ?_
    refine T_goto (pc := 6) C 10 dJ9_max_7cf53_6 rfl ?_
    exact T_iret (pc := 10) x0 (fun h9 => h9) h0 (nar_I _) (by decide) dJ9_max_7cf53_10

abbrev rm_X10_isFor : Room := ⟨0, 0, 0, 0⟩
theorem cm_X10_isFor : cmV yX10_isFor cX10_isFor 3 (some .boolean) 2 := ⟨kc_81, kc_241, ⟨by decide +kernel, by decide +kernel, by decide +kernel⟩, kc_347, kc_348⟩
def f_X10_isFor (σ : Sm) (r0 : Nat) (x1 : Int) (x2 : Int) : Option Int :=
  (if (σ r0 1) = x1 then (if (σ r0 2) = x2 then some 1 else some 0) else some 0)
theorem ct_X10_isFor {l : Launch} {cy : Nat → ClassId} {ad : Nat → Nat} {E : Nat → Nat → Nat} {G : va_G} {Z : vZ} (zk : Zk Z E) (σ : Sm) (r0 : Nat) (x1 : Int) (x2 : Int) (k0 : kd r0 = 10) (h1 : rng x1) (h2 : rng x2) (hw : wfc σ) (o : Int) (h : f_X10_isFor σ r0 x1 x2 = some o) : CzI Z l yX10_isFor cX10_isFor 3 (some .boolean) rm_X10_isFor (wlc cy ad E) wfc G (tyc cy) [.ref (ad r0), vi x1, vi x2] σ σ o := by
  refine czI_of zk.1 (plainFor_of_name (by decide)) (Nat.le_of_ble_eq_true rfl) hw (σ, o) o h (fun X Y v => EndI X Y cX10_isFor rm_X10_isFor .boolean (σ, v)) (fun _ _ h => h) (fun X A Q hZ hX C => ?_)
  replace C : Cx X (Yc cy ad E G A 3 Q) cX10_isFor RX10 (some .boolean) rm_X10_isFor (tyc cy) := C
  replace hZ : Zx Z X (Yc cy ad E G A 3 Q) := hZ
  show T X (Yc cy ad E G A 3 Q) (fun v => EndI X (Yc cy ad E G A 3 Q) cX10_isFor rm_X10_isFor .boolean (σ, v)) 0 0 0 [(0, .ref (ad r0)), (1, vi x1), (2, vi x2)] [] σ (f_X10_isFor σ r0 x1 x2)
  unfold f_X10_isFor
  refine T_aload_n (pc := 0) C dX10_isFor_0 rfl 0 rfl ?_
  refine Tc_geti (pc := 1) C r0 10 1 6 k0 (by decide) (fun _ => rfl) rfl inX10 (by decide) rfl kc_236 dX10_isFor_1 (fun z1 => ?_)
  refine T_iload_n (pc := 4) C dX10_isFor_4 rfl 1 rfl ?_
  refine T_icmp_ne (pc := 5) C 20 dX10_isFor_5 rfl z1 h1 (fun c2 => ?_) (fun c2 => ?_)
  · refine T_iconst (pc := 20) C dX10_isFor_20 ?_
    exact T_iret (pc := 21) 0 (fun h9 => h9) (rngL rfl) (nar_Z (Or.inl rfl)) (by decide) dX10_isFor_21
  · refine T_aload_n (pc := 8) C dX10_isFor_8 rfl 0 rfl ?_
    refine Tc_geti (pc := 9) C r0 10 2 6 k0 (by decide) (fun _ => rfl) rfl inX10 (by decide) rfl kc_237 dX10_isFor_9 (fun z3 => ?_)
    refine T_iload_n (pc := 12) C dX10_isFor_12 rfl 2 rfl ?_
    refine T_icmp_ne (pc := 13) C 20 dX10_isFor_13 rfl z3 h2 (fun c4 => ?_) (fun c4 => ?_)
    · refine T_iconst (pc := 20) C dX10_isFor_20 ?_
      exact T_iret (pc := 21) 0 (fun h9 => h9) (rngL rfl) (nar_Z (Or.inl rfl)) (by decide) dX10_isFor_21
    · refine T_iconst (pc := 16) C dX10_isFor_16 ?_
      refine T_goto (pc := 17) C 21 dX10_isFor_17 rfl ?_
      exact T_iret (pc := 21) 1 (fun h9 => h9) (rngL rfl) (nar_Z (Or.inr rfl)) (by decide) dX10_isFor_21

abbrev rm_X11_countOnHop : Room := ⟨1, 0, 0, 22⟩
theorem cm_X11_countOnHop : cmV yX11_countOnHop cX11_countOnHop 7 (some .int) 3 := ⟨kc_88, kc_251, ⟨by decide +kernel, by decide +kernel, by decide +kernel⟩, kc_352, kc_353⟩
def f_X11_countOnHop_6 (σ : Sm) (r0 : Nat) (x1 : Int) (x2 : Int) (x3 : Int) : Nat → Int → Int → Option (Int)
  | 0, _, _ => none
  | n + 1, x4, x5 => (if (σ r0 1) ≤ x5 then some x4 else if 0 ≤ x5 ∧ x5 < 16 then (f_X10_isFor σ (σ (r0 + 1) x5.toNat).toNat x1 x2).bind fun v23 => (if v23 = 0 then f_X11_countOnHop_6 σ r0 x1 x2 x3 n x4 (x5 + 1) else (if x3 < (σ (σ (r0 + 1) x5.toNat).toNat 3) then f_X11_countOnHop_6 σ r0 x1 x2 x3 n x4 (x5 + 1) else (if (σ (σ (r0 + 1) x5.toNat).toNat 4) ≤ x3 then f_X11_countOnHop_6 σ r0 x1 x2 x3 n x4 (x5 + 1) else if rng (x4 + 1) then f_X11_countOnHop_6 σ r0 x1 x2 x3 n (x4 + 1) (x5 + 1) else none))) else none)
theorem lp_X11_countOnHop_6 {X : vjX} {A : Nat → Prop} {Q : State → Prop} {cy : Nat → ClassId} {ad : Nat → Nat} {E : Nat → Nat → Nat} {G : va_G} {Z : vZ} (zk : Zk Z E) (hZ : Zx Z X (Yc cy ad E G A 7 Q)) (C : Cx X (Yc cy ad E G A 7 Q) cX11_countOnHop RX11 (some .int) rm_X11_countOnHop (tyc cy)) (σ : Sm) (r0 : Nat) (k0 : kd r0 = 11) (x1 : Int) (x2 : Int) (x3 : Int) (h1 : rng x1) (h2 : rng x2) (h3 : rng x3) : ∀ (n : Nat) (x4 : Int) (x5 : Int) (h4 : rng x4) (h5 : rng x5), T X (Yc cy ad E G A 7 Q) (fun (q : Int) => rng q → J X (Yc cy ad E G A 7 Q) 0 0 61 [(4, vi q)] [] σ) 0 0 6 [(0, .ref (ad r0)), (1, vi x1), (2, vi x2), (3, vi x3), (4, vi x4), (5, vi x5)] [] σ (f_X11_countOnHop_6 σ r0 x1 x2 x3 n x4 x5) := by
  intro n
  induction n with
  | zero => intro x4 x5 h4 h5; exact T_none
  | succ n ih =>
    intro x4 x5 h4 h5
    rw [f_X11_countOnHop_6]
    refine T_iload (pc := 6) C dX11_countOnHop_6 5 rfl ?_
    refine T_aload_n (pc := 8) C dX11_countOnHop_8 rfl 0 rfl ?_
    refine Tc_geti (pc := 9) C r0 11 1 6 k0 (by decide) (fun _ => rfl) rfl inX11 (by decide) rfl kc_244 dX11_countOnHop_9 (fun z19 => ?_)
    refine T_icmp_ge (pc := 12) C 61 dX11_countOnHop_12 rfl h5 z19 (fun c20 => ?_) (fun c20 => ?_)
    · refine T_sub (L' := [(4, vi x4)]) [4] rfl ?_
      exact T_exit (fun h9 => h9 h4)
    · refine T_aload_n (pc := 15) C dX11_countOnHop_15 rfl 0 rfl ?_
      refine Tc_getr (pc := 16) C r0 11 0 6 k0 (by decide) (fun _ => rfl) rfl inX11 (by decide) (v := .ref (ad (r0 + 1))) rfl kc_249 dX11_countOnHop_16 ?_
      refine T_iload (pc := 19) C dX11_countOnHop_19 5 rfl ?_
      refine T_guard (fun g21 => ?_)
      refine Tc_ald28 (pc := 21) C (r0 + 1) x5.toNat (kd_11 k0) g21 rfl dX11_countOnHop_21 (fun y22 => ?_)
      refine T_astore (pc := 22) (L' := [(6, .ref (ad (σ (r0 + 1) x5.toNat).toNat)), (0, .ref (ad r0)), (1, vi x1), (2, vi x2), (3, vi x3), (4, vi x4), (5, vi x5)]) C dX11_countOnHop_22 (Nat.le_of_ble_eq_true rfl) rfl ?_
      refine T_aload (pc := 24) C dX11_countOnHop_24 0 rfl ?_
      refine T_iload_n (pc := 26) C dX11_countOnHop_26 rfl 2 rfl ?_
      refine T_iload_n (pc := 27) C dX11_countOnHop_27 rfl 3 rfl ?_
      refine T_czVip (pc := 28) zk.1 hZ C [vi x1, vi x2] [] (fun o h9 hw => ct_X10_isFor zk σ (σ (r0 + 1) x5.toNat).toNat x1 x2 y22.2 h1 h2 hw o h9) kc_349 cm_X10_isFor (rcc y22.2 (by decide) (fun _ => rfl) rfl) rfl rfl (Nat.le_of_ble_eq_true rfl) (by decide) (a' := 0) (b' := 0) ⟨rfl, rfl⟩ dX11_countOnHop_28 (fun v23 hv23 => ?_)
      refine T_if_eq (pc := 31) C 55 dX11_countOnHop_31 rfl hv23.1 (fun c24 => ?_) (fun c24 => ?_)
      · refine T_iinc (pc := 55) (L' := [(5, vi (x5 + 1)), (6, .ref (ad (σ (r0 + 1) x5.toNat).toNat)), (0, .ref (ad r0)), (1, vi x1), (2, vi x2), (3, vi x3), (4, vi x4)]) C dX11_countOnHop_55 (Nat.le_of_ble_eq_true rfl) 6 rfl rfl ?_
        refine T_goto (pc := 58) C 6 dX11_countOnHop_58 rfl ?_
        refine T_sub (L' := [(0, .ref (ad r0)), (1, vi x1), (2, vi x2), (3, vi x3), (4, vi x4), (5, vi (x5 + 1))]) [2, 3, 4, 5, 6, 0] rfl ?_
        exact ih x4 (x5 + 1) h4 (rng_inc c20 h5 z19)
      · refine T_aload (pc := 34) C dX11_countOnHop_34 0 rfl ?_
        refine Tc_geti (pc := 36) C (σ (r0 + 1) x5.toNat).toNat 10 3 6 y22.2 (by decide) (fun _ => rfl) rfl inX10 (by decide) rfl kc_350 dX11_countOnHop_36 (fun z25 => ?_)
        refine T_iload_n (pc := 39) C dX11_countOnHop_39 rfl 4 rfl ?_
        refine T_icmp_gt (pc := 40) C 55 dX11_countOnHop_40 rfl z25 h3 (fun c26 => ?_) (fun c26 => ?_)
        · refine T_iinc (pc := 55) (L' := [(5, vi (x5 + 1)), (6, .ref (ad (σ (r0 + 1) x5.toNat).toNat)), (0, .ref (ad r0)), (1, vi x1), (2, vi x2), (3, vi x3), (4, vi x4)]) C dX11_countOnHop_55 (Nat.le_of_ble_eq_true rfl) 6 rfl rfl ?_
          refine T_goto (pc := 58) C 6 dX11_countOnHop_58 rfl ?_
          refine T_sub (L' := [(0, .ref (ad r0)), (1, vi x1), (2, vi x2), (3, vi x3), (4, vi x4), (5, vi (x5 + 1))]) [2, 3, 4, 5, 6, 0] rfl ?_
          exact ih x4 (x5 + 1) h4 (rng_inc c20 h5 z19)
        · refine T_iload_n (pc := 43) C dX11_countOnHop_43 rfl 4 rfl ?_
          refine T_aload (pc := 44) C dX11_countOnHop_44 0 rfl ?_
          refine Tc_geti (pc := 46) C (σ (r0 + 1) x5.toNat).toNat 10 4 6 y22.2 (by decide) (fun _ => rfl) rfl inX10 (by decide) rfl kc_351 dX11_countOnHop_46 (fun z27 => ?_)
          refine T_icmp_ge (pc := 49) C 55 dX11_countOnHop_49 rfl h3 z27 (fun c28 => ?_) (fun c28 => ?_)
          · refine T_iinc (pc := 55) (L' := [(5, vi (x5 + 1)), (6, .ref (ad (σ (r0 + 1) x5.toNat).toNat)), (0, .ref (ad r0)), (1, vi x1), (2, vi x2), (3, vi x3), (4, vi x4)]) C dX11_countOnHop_55 (Nat.le_of_ble_eq_true rfl) 6 rfl rfl ?_
            refine T_goto (pc := 58) C 6 dX11_countOnHop_58 rfl ?_
            refine T_sub (L' := [(0, .ref (ad r0)), (1, vi x1), (2, vi x2), (3, vi x3), (4, vi x4), (5, vi (x5 + 1))]) [2, 3, 4, 5, 6, 0] rfl ?_
            exact ih x4 (x5 + 1) h4 (rng_inc c20 h5 z19)
          · refine T_iinc (pc := 52) (L' := [(4, vi (x4 + 1)), (6, .ref (ad (σ (r0 + 1) x5.toNat).toNat)), (0, .ref (ad r0)), (1, vi x1), (2, vi x2), (3, vi x3), (5, vi x5)]) C dX11_countOnHop_52 (Nat.le_of_ble_eq_true rfl) 5 rfl rfl ?_
            refine T_iinc (pc := 55) (L' := [(5, vi (x5 + 1)), (4, vi (x4 + 1)), (6, .ref (ad (σ (r0 + 1) x5.toNat).toNat)), (0, .ref (ad r0)), (1, vi x1), (2, vi x2), (3, vi x3)]) C dX11_countOnHop_55 (Nat.le_of_ble_eq_true rfl) 6 rfl rfl ?_
            refine T_goto (pc := 58) C 6 dX11_countOnHop_58 rfl ?_
            refine T_sub (L' := [(0, .ref (ad r0)), (1, vi x1), (2, vi x2), (3, vi x3), (4, vi (x4 + 1)), (5, vi (x5 + 1))]) [3, 4, 5, 6, 1, 0] rfl ?_
            refine T_guard (fun g29 => ?_)
            exact ih (x4 + 1) (x5 + 1) g29 (rng_inc c20 h5 z19)
def f_X11_countOnHop (N : Nat) (σ : Sm) (r0 : Nat) (x1 : Int) (x2 : Int) (x3 : Int) : Option Int :=
  (f_X11_countOnHop_6 σ r0 x1 x2 x3 N 0 0).bind fun q30 => some q30
theorem ct_X11_countOnHop {l : Launch} {cy : Nat → ClassId} {ad : Nat → Nat} {E : Nat → Nat → Nat} {G : va_G} {Z : vZ} (zk : Zk Z E) (N : Nat) (σ : Sm) (r0 : Nat) (x1 : Int) (x2 : Int) (x3 : Int) (k0 : kd r0 = 11) (h1 : rng x1) (h2 : rng x2) (h3 : rng x3) (hw : wfc σ) (o : Int) (h : f_X11_countOnHop N σ r0 x1 x2 x3 = some o) : CzI Z l yX11_countOnHop cX11_countOnHop 7 (some .int) rm_X11_countOnHop (wlc cy ad E) wfc G (tyc cy) [.ref (ad r0), vi x1, vi x2, vi x3] σ σ o := by
  refine czI_of zk.1 (plainFor_of_name (by decide)) (Nat.le_of_ble_eq_true rfl) hw (σ, o) o h (fun X Y v => EndI X Y cX11_countOnHop rm_X11_countOnHop .int (σ, v)) (fun _ _ h => h) (fun X A Q hZ hX C => ?_)
  replace C : Cx X (Yc cy ad E G A 7 Q) cX11_countOnHop RX11 (some .int) rm_X11_countOnHop (tyc cy) := C
  replace hZ : Zx Z X (Yc cy ad E G A 7 Q) := hZ
  show T X (Yc cy ad E G A 7 Q) (fun v => EndI X (Yc cy ad E G A 7 Q) cX11_countOnHop rm_X11_countOnHop .int (σ, v)) 0 0 0 [(0, .ref (ad r0)), (1, vi x1), (2, vi x2), (3, vi x3)] [] σ (f_X11_countOnHop N σ r0 x1 x2 x3)
  unfold f_X11_countOnHop
  refine T_iconst (pc := 0) C dX11_countOnHop_0 ?_
  refine T_istore (pc := 1) (L' := [(4, vi 0), (0, .ref (ad r0)), (1, vi x1), (2, vi x2), (3, vi x3)]) C dX11_countOnHop_1 (Nat.le_of_ble_eq_true rfl) rfl ?_
  refine T_iconst (pc := 3) C dX11_countOnHop_3 ?_
  refine T_istore (pc := 4) (L' := [(5, vi 0), (4, vi 0), (0, .ref (ad r0)), (1, vi x1), (2, vi x2), (3, vi x3)]) C dX11_countOnHop_4 (Nat.le_of_ble_eq_true rfl) rfl ?_
  refine T_sub (L' := [(0, .ref (ad r0)), (1, vi x1), (2, vi x2), (3, vi x3), (4, vi 0), (5, vi 0)]) [2, 3, 4, 5, 1, 0] rfl ?_
  refine T_loopE (lp_X11_countOnHop_6 zk hZ C σ r0 k0 x1 x2 x3 h1 h2 h3 N 0 0 (rngL rfl) (rngL rfl)) (fun q30 hq30 => ?_)
  refine T_iload (pc := 61) C dX11_countOnHop_61 0 rfl ?_
  exact T_iret (pc := 63) q30 (fun h9 => h9) hq30 (nar_I _) (by decide) dX11_countOnHop_63

abbrev rm_X8_seatsLeft : Room := ⟨2, 0, 0, 48⟩
theorem cm_X8_seatsLeft : cmV yX8_seatsLeft cX8_seatsLeft 7 (some .int) 4 := ⟨kc_59, kc_147, ⟨by decide +kernel, by decide +kernel, by decide +kernel⟩, kc_357, kc_358⟩
def f_X8_seatsLeft_6 (N : Nat) (σ : Sm) (r0 : Nat) (x1 : Int) (x2 : Int) (x4 : Int) : Nat → Int → Int → Option (Int)
  | 0, _, _ => none
  | n + 1, x5, x6 => (if x4 ≤ x6 then some x5 else (f_X11_countOnHop N σ (r0 + 5) x1 x2 x6).bind fun v6 => (f_J9_max_7cf53 x5 v6).bind fun v7 => f_X8_seatsLeft_6 N σ r0 x1 x2 x4 n v7 (x6 + 1))
theorem lp_X8_seatsLeft_6 {X : vjX} {A : Nat → Prop} {Q : State → Prop} {cy : Nat → ClassId} {ad : Nat → Nat} {E : Nat → Nat → Nat} {G : va_G} {Z : vZ} (zk : Zk Z E) (hZ : Zx Z X (Yc cy ad E G A 7 Q)) (C : Cx X (Yc cy ad E G A 7 Q) cX8_seatsLeft RX8 (some .int) rm_X8_seatsLeft (tyc cy)) (N : Nat) (σ : Sm) (r0 : Nat) (k0 : kd r0 = 8) (x1 : Int) (x2 : Int) (x4 : Int) (h1 : rng x1) (h2 : rng x2) (h4 : rng x4) : ∀ (n : Nat) (x5 : Int) (x6 : Int) (h5 : rng x5) (h6 : rng x6), T X (Yc cy ad E G A 7 Q) (fun (q : Int) => rng q → J X (Yc cy ad E G A 7 Q) 0 0 37 [(0, .ref (ad r0)), (1, vi x1), (5, vi q)] [] σ) 0 0 6 [(0, .ref (ad r0)), (1, vi x1), (2, vi x2), (4, vi x4), (5, vi x5), (6, vi x6)] [] σ (f_X8_seatsLeft_6 N σ r0 x1 x2 x4 n x5 x6) := by
  intro n
  induction n with
  | zero => intro x5 x6 h5 h6; exact T_none
  | succ n ih =>
    intro x5 x6 h5 h6
    rw [f_X8_seatsLeft_6]
    refine T_iload (pc := 6) C dX8_seatsLeft_6 5 rfl ?_
    refine T_iload (pc := 8) C dX8_seatsLeft_8 3 rfl ?_
    refine T_icmp_ge (pc := 10) C 37 dX8_seatsLeft_10 rfl h6 h4 (fun c5 => ?_) (fun c5 => ?_)
    · refine T_sub (L' := [(0, .ref (ad r0)), (1, vi x1), (5, vi x5)]) [0, 1, 4] rfl ?_
      exact T_exit (fun h9 => h9 h5)
    · refine T_iload (pc := 13) C dX8_seatsLeft_13 4 rfl ?_
      refine T_aload_n (pc := 15) C dX8_seatsLeft_15 rfl 0 rfl ?_
      refine Tc_getr (pc := 16) C r0 8 9 10 k0 (by decide) (fun _ => rfl) rfl inX8 (by decide) (v := .ref (ad (r0 + 5))) rfl kc_270 dX8_seatsLeft_16 ?_
      refine T_iload_n (pc := 19) C dX8_seatsLeft_19 rfl 1 rfl ?_
      refine T_iload_n (pc := 20) C dX8_seatsLeft_20 rfl 2 rfl ?_
      refine T_iload (pc := 21) C dX8_seatsLeft_21 5 rfl ?_
      refine T_czVip (pc := 23) zk.1 hZ C [vi x1, vi x2, vi x6] [vi x5] (fun o h9 hw => ct_X11_countOnHop zk N σ (r0 + 5) x1 x2 x6 (kd_8 k0).2.2.2.2.1 h1 h2 h6 hw o h9) kc_354 cm_X11_countOnHop (rcc (kd_8 k0).2.2.2.2.1 (by decide) (fun _ => rfl) rfl) rfl rfl (Nat.le_of_ble_eq_true rfl) (by decide) (a' := 0) (b' := 0) ⟨rfl, rfl⟩ dX8_seatsLeft_23 (fun v6 hv6 => ?_)
      refine T_czSip (pc := 26) zk.1 hZ C [vi x5, vi v6] [] (fun o h9 hw => ct_J9_max_7cf53 zk σ x5 v6 h5 hv6.1 hw o h9) kc_355 cm_J9_max_7cf53 rfl rfl (Nat.le_of_ble_eq_true rfl) (by decide) (a' := 0) (b' := 0) ⟨rfl, rfl⟩ dX8_seatsLeft_26 (fun v7 hv7 => ?_)
      refine T_istore (pc := 29) (L' := [(5, vi v7), (0, .ref (ad r0)), (1, vi x1), (2, vi x2), (4, vi x4), (6, vi x6)]) C dX8_seatsLeft_29 (Nat.le_of_ble_eq_true rfl) rfl ?_
      refine T_iinc (pc := 31) (L' := [(6, vi (x6 + 1)), (5, vi v7), (0, .ref (ad r0)), (1, vi x1), (2, vi x2), (4, vi x4)]) C dX8_seatsLeft_31 (Nat.le_of_ble_eq_true rfl) 5 rfl rfl ?_
      refine T_goto (pc := 34) C 6 dX8_seatsLeft_34 rfl ?_
      refine T_sub (L' := [(0, .ref (ad r0)), (1, vi x1), (2, vi x2), (4, vi x4), (5, vi v7), (6, vi (x6 + 1))]) [2, 3, 4, 5, 1, 0] rfl ?_
      exact ih v7 (x6 + 1) hv7.1 (rng_inc c5 h6 h4)
def f_X8_seatsLeft (N : Nat) (σ : Sm) (r0 : Nat) (x1 : Int) (x2 : Int) (x3 : Int) (x4 : Int) : Option Int :=
  (f_X8_seatsLeft_6 N σ r0 x1 x2 x4 N 0 x3).bind fun q8 => if 0 ≤ x1 ∧ x1 < 5 then if rng ((σ (r0 + 23 + 2 * x1.toNat) 4) - q8) then some ((σ (r0 + 23 + 2 * x1.toNat) 4) - q8) else none else none
theorem ct_X8_seatsLeft {l : Launch} {cy : Nat → ClassId} {ad : Nat → Nat} {E : Nat → Nat → Nat} {G : va_G} {Z : vZ} (zk : Zk Z E) (N : Nat) (σ : Sm) (r0 : Nat) (x1 : Int) (x2 : Int) (x3 : Int) (x4 : Int) (k0 : kd r0 = 8) (h1 : rng x1) (h2 : rng x2) (h3 : rng x3) (h4 : rng x4) (hw : wfc σ) (o : Int) (h : f_X8_seatsLeft N σ r0 x1 x2 x3 x4 = some o) : CzI Z l yX8_seatsLeft cX8_seatsLeft 7 (some .int) rm_X8_seatsLeft (wlc cy ad E) wfc G (tyc cy) [.ref (ad r0), vi x1, vi x2, vi x3, vi x4] σ σ o := by
  refine czI_of zk.1 (plainFor_of_name (by decide)) (Nat.le_of_ble_eq_true rfl) hw (σ, o) o h (fun X Y v => EndI X Y cX8_seatsLeft rm_X8_seatsLeft .int (σ, v)) (fun _ _ h => h) (fun X A Q hZ hX C => ?_)
  replace C : Cx X (Yc cy ad E G A 7 Q) cX8_seatsLeft RX8 (some .int) rm_X8_seatsLeft (tyc cy) := C
  replace hZ : Zx Z X (Yc cy ad E G A 7 Q) := hZ
  show T X (Yc cy ad E G A 7 Q) (fun v => EndI X (Yc cy ad E G A 7 Q) cX8_seatsLeft rm_X8_seatsLeft .int (σ, v)) 0 0 0 [(0, .ref (ad r0)), (1, vi x1), (2, vi x2), (3, vi x3), (4, vi x4)] [] σ (f_X8_seatsLeft N σ r0 x1 x2 x3 x4)
  unfold f_X8_seatsLeft
  refine T_iconst (pc := 0) C dX8_seatsLeft_0 ?_
  refine T_istore (pc := 1) (L' := [(5, vi 0), (0, .ref (ad r0)), (1, vi x1), (2, vi x2), (3, vi x3), (4, vi x4)]) C dX8_seatsLeft_1 (Nat.le_of_ble_eq_true rfl) rfl ?_
  refine T_iload_n (pc := 3) C dX8_seatsLeft_3 rfl 4 rfl ?_
  refine T_istore (pc := 4) (L' := [(6, vi x3), (5, vi 0), (0, .ref (ad r0)), (1, vi x1), (2, vi x2), (3, vi x3), (4, vi x4)]) C dX8_seatsLeft_4 (Nat.le_of_ble_eq_true rfl) rfl ?_
  refine T_sub (L' := [(0, .ref (ad r0)), (1, vi x1), (2, vi x2), (4, vi x4), (5, vi 0), (6, vi x3)]) [2, 3, 4, 6, 1, 0] rfl ?_
  refine T_loopE (lp_X8_seatsLeft_6 zk hZ C N σ r0 k0 x1 x2 x4 h1 h2 h4 N 0 x3 (rngL rfl) h3) (fun q8 hq8 => ?_)
  refine T_aload_n (pc := 37) C dX8_seatsLeft_37 rfl 0 rfl ?_
  refine Tc_getr (pc := 38) C r0 8 8 10 k0 (by decide) (fun _ => rfl) rfl inX8 (by decide) (v := .ref (ad (r0 + 4))) rfl kc_268 dX8_seatsLeft_38 ?_
  refine T_iload_n (pc := 41) C dX8_seatsLeft_41 rfl 1 rfl ?_
  refine T_guard (fun g9 => ?_)
  refine Tc_ald27 (pc := 42) C r0 k0 g9 dX8_seatsLeft_42 (fun y10 => ?_)
  refine Tc_geti (pc := 43) C (r0 + 23 + 2 * x1.toNat) 7 4 8 y10 (by decide) (fun _ => rfl) rfl inX7 (by decide) rfl kc_356 dX8_seatsLeft_43 (fun z11 => ?_)
  refine T_iload (pc := 46) C dX8_seatsLeft_46 2 rfl ?_
  refine T_isub (pc := 48) C dX8_seatsLeft_48 ?_
  refine T_guard (fun g12 => ?_)
  exact T_iret (pc := 49) ((σ (r0 + 23 + 2 * x1.toNat) 4) - q8) (fun h9 => h9) g12 (nar_I _) (by decide) dX8_seatsLeft_49

abbrev rm_X8_saleFault : Room := ⟨3, 0, 0, 74⟩
theorem cm_X8_saleFault : cmV yX8_saleFault cX8_saleFault 6 (some (.object "RingTransit$Fault")) 4 := ⟨kc_57, kc_147, ⟨by decide +kernel, by decide +kernel, by decide +kernel⟩, kc_363, kc_364⟩
def f_X8_saleFault (N : Nat) (σ : Sm) (r0 : Nat) (x1 : Int) (x2 : Int) (x3 : Int) (x4 : Int) : Option Int :=
  (f_X8_rideFault σ r0 x1 x2 x3 x4).bind fun v1 => (if v1 = 0 then if 0 ≤ x1 ∧ x1 < 5 then (f_X7_isRunning σ (r0 + 23 + 2 * x1.toNat)).bind fun v5 => (if v5 = 0 then some 3 else (if (σ (r0 + 5) 1) < 16 then (f_X8_seatsLeft N σ r0 x1 x2 x3 x4).bind fun v9 => (if v9 ≤ 0 then some 5 else some 0) else some 3)) else none else some v1)
theorem ct_X8_saleFault {l : Launch} {cy : Nat → ClassId} {ad : Nat → Nat} {E : Nat → Nat → Nat} {G : va_G} {Z : vZ} (zk : Zk Z E) (N : Nat) (σ : Sm) (r0 : Nat) (x1 : Int) (x2 : Int) (x3 : Int) (x4 : Int) (k0 : kd r0 = 8) (h1 : rng x1) (h2 : rng x2) (h3 : rng x3) (h4 : rng x4) (hw : wfc σ) (o : Int) (h : f_X8_saleFault N σ r0 x1 x2 x3 x4 = some o) : CzE Z E 0 6 l yX8_saleFault cX8_saleFault 6 (some (.object "RingTransit$Fault")) rm_X8_saleFault (wlc cy ad E) wfc G (tyc cy) [.ref (ad r0), vi x1, vi x2, vi x3, vi x4] σ σ o := by
  refine czE_of zk.1 (plainFor_of_name (by decide)) (Nat.le_of_ble_eq_true rfl) hw (σ, o) o h (fun X Y v => EndE E 0 6 X Y cX8_saleFault rm_X8_saleFault (σ, v)) (fun _ _ h => h) (fun X A Q hZ hX C => ?_)
  replace C : Cx X (Yc cy ad E G A 6 Q) cX8_saleFault RX8 (some (.object "RingTransit$Fault")) rm_X8_saleFault (tyc cy) := C
  replace hZ : Zx Z X (Yc cy ad E G A 6 Q) := hZ
  show T X (Yc cy ad E G A 6 Q) (fun v => EndE E 0 6 X (Yc cy ad E G A 6 Q) cX8_saleFault rm_X8_saleFault (σ, v)) 0 0 0 [(0, .ref (ad r0)), (1, vi x1), (2, vi x2), (3, vi x3), (4, vi x4)] [] σ (f_X8_saleFault N σ r0 x1 x2 x3 x4)
  unfold f_X8_saleFault
  refine T_aload_n (pc := 0) C dX8_saleFault_0 rfl 0 rfl ?_
  refine T_iload_n (pc := 1) C dX8_saleFault_1 rfl 1 rfl ?_
  refine T_iload_n (pc := 2) C dX8_saleFault_2 rfl 2 rfl ?_
  refine T_iload_n (pc := 3) C dX8_saleFault_3 rfl 3 rfl ?_
  refine T_iload (pc := 4) C dX8_saleFault_4 4 rfl ?_
  refine T_czVep (pc := 6) zk.1 hZ C [vi x1, vi x2, vi x3, vi x4] [] (fun o h9 hw => ct_X8_rideFault zk σ r0 x1 x2 x3 x4 k0 h1 h2 h3 h4 hw o h9) kc_359 cm_X8_rideFault (rcc k0 (by decide) (fun _ => rfl) rfl) rfl rfl (Nat.le_of_ble_eq_true rfl) (by decide) (a' := 0) (b' := 0) ⟨rfl, rfl⟩ dX8_saleFault_6 (fun v1 hv1 => ?_)
  refine T_astore (pc := 9) (L' := [(5, ve E 0 v1), (0, .ref (ad r0)), (1, vi x1), (2, vi x2), (3, vi x3), (4, vi x4)]) C dX8_saleFault_9 (Nat.le_of_ble_eq_true rfl) rfl ?_
  refine T_aload (pc := 11) C dX8_saleFault_11 0 rfl ?_
  refine T_gets zk.2 hZ (pc := 13) C 0 0 rfl (by decide) kc_301 dX8_saleFault_13 ?_
  refine T_acmp_eq zk.2 hZ (pc := 16) C 22 dX8_saleFault_16 rfl hv1 (by decide) (fun c2 => ?_) (fun c2 => ?_)
  · refine T_aload_n (pc := 22) C dX8_saleFault_22 rfl 1 rfl ?_
    refine Tc_getr (pc := 23) C r0 8 8 10 k0 (by decide) (fun _ => rfl) rfl inX8 (by decide) (v := .ref (ad (r0 + 4))) rfl kc_268 dX8_saleFault_23 ?_
    refine T_iload_n (pc := 26) C dX8_saleFault_26 rfl 2 rfl ?_
    refine T_guard (fun g3 => ?_)
    refine Tc_ald27 (pc := 27) C r0 k0 g3 dX8_saleFault_27 (fun y4 => ?_)
    refine T_czVip (pc := 28) zk.1 hZ C [] [] (fun o h9 hw => ct_X7_isRunning zk σ (r0 + 23 + 2 * x1.toNat) y4 hw o h9) kc_360 cm_X7_isRunning (rcc y4 (by decide) (fun _ => rfl) rfl) rfl rfl (Nat.le_of_ble_eq_true rfl) (by decide) (a' := 0) (b' := 0) ⟨rfl, rfl⟩ dX8_saleFault_28 (fun v5 hv5 => ?_)
    refine T_if_eq (pc := 31) C 46 dX8_saleFault_31 rfl hv5.1 (fun c6 => ?_) (fun c6 => ?_)
    · refine T_gets zk.2 hZ (pc := 46) C 3 3 rfl (by decide) kc_312 dX8_saleFault_46 ?_
      exact T_eret (pc := 49) 3 (fun h9 => h9) (by decide) (by decide) dX8_saleFault_49
    · refine T_aload_n (pc := 34) C dX8_saleFault_34 rfl 1 rfl ?_
      refine Tc_getr (pc := 35) C r0 8 9 10 k0 (by decide) (fun _ => rfl) rfl inX8 (by decide) (v := .ref (ad (r0 + 5))) rfl kc_270 dX8_saleFault_35 ?_
      refine Tc_geti (pc := 38) C (r0 + 5) 11 1 6 (kd_8 k0).2.2.2.2.1 (by decide) (fun _ => rfl) rfl inX11 (by decide) rfl kc_361 dX8_saleFault_38 (fun z7 => ?_)
      refine T_bipush (pc := 41) C dX8_saleFault_41 (by decide) ?_
      refine T_icmp_lt (pc := 43) C 50 dX8_saleFault_43 rfl z7 (rngL rfl) (fun c8 => ?_) (fun c8 => ?_)
      · refine T_aload_n (pc := 50) C dX8_saleFault_50 rfl 1 rfl ?_
        refine T_iload_n (pc := 51) C dX8_saleFault_51 rfl 2 rfl ?_
        refine T_iload_n (pc := 52) C dX8_saleFault_52 rfl 3 rfl ?_
        refine T_iload_n (pc := 53) C dX8_saleFault_53 rfl 4 rfl ?_
        refine T_iload (pc := 54) C dX8_saleFault_54 5 rfl ?_
        refine T_czVip (pc := 56) zk.1 hZ C [vi x1, vi x2, vi x3, vi x4] [] (fun o h9 hw => ct_X8_seatsLeft zk N σ r0 x1 x2 x3 x4 k0 h1 h2 h3 h4 hw o h9) kc_362 cm_X8_seatsLeft (rcc k0 (by decide) (fun _ => rfl) rfl) rfl rfl (Nat.le_of_ble_eq_true rfl) (by decide) (a' := 0) (b' := 0) ⟨rfl, rfl⟩ dX8_saleFault_56 (fun v9 hv9 => ?_)
        refine T_if_le (pc := 59) C 68 dX8_saleFault_59 rfl hv9.1 (fun c10 => ?_) (fun c10 => ?_)
        · refine T_gets zk.2 hZ (pc := 68) C 5 5 rfl (by decide) kc_337 dX8_saleFault_68 ?_
          exact T_eret (pc := 71) 5 (fun h9 => h9) (by decide) (by decide) dX8_saleFault_71
        · refine T_gets zk.2 hZ (pc := 62) C 0 0 rfl (by decide) kc_301 dX8_saleFault_62 ?_
          refine T_goto (pc := 65) C 71 dX8_saleFault_65 rfl ?_
          exact T_eret (pc := 71) 0 (fun h9 => h9) (by decide) (by decide) dX8_saleFault_71
      · refine T_gets zk.2 hZ (pc := 46) C 3 3 rfl (by decide) kc_312 dX8_saleFault_46 ?_
        exact T_eret (pc := 49) 3 (fun h9 => h9) (by decide) (by decide) dX8_saleFault_49
  · refine T_aload (pc := 19) C dX8_saleFault_19 0 rfl ?_
    exact T_eret (pc := 21) v1 (fun h9 => h9) hv1 (by decide) dX8_saleFault_21

abbrev rm_X11_put : Room := ⟨0, 0, 0, 0⟩
theorem cm_X11_put : cmV yX11_put cX11_put 7 (some .int) 5 := ⟨kc_83, kc_251, ⟨by decide +kernel, by decide +kernel, by decide +kernel⟩, kc_368, kc_369⟩
def f_X11_put (σ : Sm) (r0 : Nat) (x1 : Int) (x2 : Int) (x3 : Int) (x4 : Int) (x5 : Int) : Option (Sm × Int) :=
  (if (σ r0 1) < 16 then if 0 ≤ (σ r0 1) ∧ (σ r0 1) < 16 then bl (upm σ (σ (r0 + 1) (σ r0 1).toNat).toNat 0 (σ r0 2)) fun s7 => bl (upm s7 (σ (r0 + 1) (σ r0 1).toNat).toNat 1 x1) fun s8 => bl (upm s8 (σ (r0 + 1) (σ r0 1).toNat).toNat 2 x2) fun s9 => bl (upm s9 (σ (r0 + 1) (σ r0 1).toNat).toNat 3 x3) fun s10 => bl (upm s10 (σ (r0 + 1) (σ r0 1).toNat).toNat 4 x4) fun s11 => bl (upm s11 (σ (r0 + 1) (σ r0 1).toNat).toNat 5 x5) fun s12 => if rng ((s12 r0 1) + 1) then bl (upm s12 r0 1 ((s12 r0 1) + 1)) fun s15 => if rng ((s15 r0 2) + 1) then bl (upm s15 r0 2 ((s15 r0 2) + 1)) fun s18 => if rng ((s18 r0 3) + x5) then bl (upm s18 r0 3 ((s18 r0 3) + x5)) fun s21 => some (s21, (s21 (σ (r0 + 1) (σ r0 1).toNat).toNat 0)) else none else none else none else none else some (σ, (-1)))
theorem ct_X11_put {l : Launch} {cy : Nat → ClassId} {ad : Nat → Nat} {E : Nat → Nat → Nat} {G : va_G} {Z : vZ} (zk : Zk Z E) (σ : Sm) (r0 : Nat) (x1 : Int) (x2 : Int) (x3 : Int) (x4 : Int) (x5 : Int) (k0 : kd r0 = 11) (h1 : rng x1) (h2 : rng x2) (h3 : rng x3) (h4 : rng x4) (h5 : rng x5) (hw : wfc σ) (o : Sm × Int) (h : f_X11_put σ r0 x1 x2 x3 x4 x5 = some o) : CzI Z l yX11_put cX11_put 7 (some .int) rm_X11_put (wlc cy ad E) wfc G (tyc cy) [.ref (ad r0), vi x1, vi x2, vi x3, vi x4, vi x5] σ o.1 o.2 := by
  refine czI_of zk.1 (plainFor_of_name (by decide)) (Nat.le_of_ble_eq_true rfl) hw o o h (fun X Y w => EndI X Y cX11_put rm_X11_put .int w) (fun _ _ h => h) (fun X A Q hZ hX C => ?_)
  replace C : Cx X (Yc cy ad E G A 7 Q) cX11_put RX11 (some .int) rm_X11_put (tyc cy) := C
  replace hZ : Zx Z X (Yc cy ad E G A 7 Q) := hZ
  show T X (Yc cy ad E G A 7 Q) (fun w => EndI X (Yc cy ad E G A 7 Q) cX11_put rm_X11_put .int w) 0 0 0 [(0, .ref (ad r0)), (1, vi x1), (2, vi x2), (3, vi x3), (4, vi x4), (5, vi x5)] [] σ (f_X11_put σ r0 x1 x2 x3 x4 x5)
  unfold f_X11_put
  refine T_aload_n (pc := 0) C dX11_put_0 rfl 0 rfl ?_
  refine Tc_geti (pc := 1) C r0 11 1 6 k0 (by decide) (fun _ => rfl) rfl inX11 (by decide) rfl kc_244 dX11_put_1 (fun z1 => ?_)
  refine T_bipush (pc := 4) C dX11_put_4 (by decide) ?_
  refine T_icmp_lt (pc := 6) C 11 dX11_put_6 rfl z1 (rngL rfl) (fun c2 => ?_) (fun c2 => ?_)
  · refine T_aload_n (pc := 11) C dX11_put_11 rfl 0 rfl ?_
    refine Tc_getr (pc := 12) C r0 11 0 6 k0 (by decide) (fun _ => rfl) rfl inX11 (by decide) (v := .ref (ad (r0 + 1))) rfl kc_249 dX11_put_12 ?_
    refine T_aload_n (pc := 15) C dX11_put_15 rfl 0 rfl ?_
    refine Tc_geti (pc := 16) C r0 11 1 6 k0 (by decide) (fun _ => rfl) rfl inX11 (by decide) rfl kc_244 dX11_put_16 (fun z3 => ?_)
    refine T_guard (fun g4 => ?_)
    refine Tc_ald28 (pc := 19) C (r0 + 1) (σ r0 1).toNat (kd_11 k0) g4 rfl dX11_put_19 (fun y5 => ?_)
    refine T_astore (pc := 20) (L' := [(6, .ref (ad (σ (r0 + 1) (σ r0 1).toNat).toNat)), (0, .ref (ad r0)), (1, vi x1), (2, vi x2), (3, vi x3), (4, vi x4), (5, vi x5)]) C dX11_put_20 (Nat.le_of_ble_eq_true rfl) rfl ?_
    refine T_aload (pc := 22) C dX11_put_22 0 rfl ?_
    refine T_aload_n (pc := 24) C dX11_put_24 rfl 1 rfl ?_
    refine Tc_geti (pc := 25) C r0 11 2 6 k0 (by decide) (fun _ => rfl) rfl inX11 (by decide) rfl kc_245 dX11_put_25 (fun z6 => ?_)
    refine Tc_put (pc := 28) C (ty := .int) (σ (r0 + 1) (σ r0 1).toNat).toNat 10 0 6 y5.2 (by decide) (fun _ => rfl) rfl inX10 (by decide) (fun _ => rfl) z6 tyX10 tyX10_ok nmX10 rfl (Nat.le_of_ble_eq_true rfl) kc_365 rfl (nar_I _) (fit_I _) dX11_put_28 ?_
    refine T_blS (fun s7 => ?_)
    refine T_aload (pc := 31) C dX11_put_31 0 rfl ?_
    refine T_iload_n (pc := 33) C dX11_put_33 rfl 2 rfl ?_
    refine Tc_put (pc := 34) C (ty := .int) (σ (r0 + 1) (σ r0 1).toNat).toNat 10 1 6 y5.2 (by decide) (fun _ => rfl) rfl inX10 (by decide) (fun _ => rfl) h1 tyX10 tyX10_ok nmX10 rfl (Nat.le_of_ble_eq_true rfl) kc_331 rfl (nar_I _) (fit_I _) dX11_put_34 ?_
    refine T_blS (fun s8 => ?_)
    refine T_aload (pc := 37) C dX11_put_37 0 rfl ?_
    refine T_iload_n (pc := 39) C dX11_put_39 rfl 3 rfl ?_
    refine Tc_put (pc := 40) C (ty := .int) (σ (r0 + 1) (σ r0 1).toNat).toNat 10 2 6 y5.2 (by decide) (fun _ => rfl) rfl inX10 (by decide) (fun _ => rfl) h2 tyX10 tyX10_ok nmX10 rfl (Nat.le_of_ble_eq_true rfl) kc_366 rfl (nar_I _) (fit_I _) dX11_put_40 ?_
    refine T_blS (fun s9 => ?_)
    refine T_aload (pc := 43) C dX11_put_43 0 rfl ?_
    refine T_iload_n (pc := 45) C dX11_put_45 rfl 4 rfl ?_
    refine Tc_put (pc := 46) C (ty := .int) (σ (r0 + 1) (σ r0 1).toNat).toNat 10 3 6 y5.2 (by decide) (fun _ => rfl) rfl inX10 (by decide) (fun _ => rfl) h3 tyX10 tyX10_ok nmX10 rfl (Nat.le_of_ble_eq_true rfl) kc_350 rfl (nar_I _) (fit_I _) dX11_put_46 ?_
    refine T_blS (fun s10 => ?_)
    refine T_aload (pc := 49) C dX11_put_49 0 rfl ?_
    refine T_iload (pc := 51) C dX11_put_51 5 rfl ?_
    refine Tc_put (pc := 53) C (ty := .int) (σ (r0 + 1) (σ r0 1).toNat).toNat 10 4 6 y5.2 (by decide) (fun _ => rfl) rfl inX10 (by decide) (fun _ => rfl) h4 tyX10 tyX10_ok nmX10 rfl (Nat.le_of_ble_eq_true rfl) kc_351 rfl (nar_I _) (fit_I _) dX11_put_53 ?_
    refine T_blS (fun s11 => ?_)
    refine T_aload (pc := 56) C dX11_put_56 0 rfl ?_
    refine T_iload (pc := 58) C dX11_put_58 6 rfl ?_
    refine Tc_put (pc := 60) C (ty := .int) (σ (r0 + 1) (σ r0 1).toNat).toNat 10 5 6 y5.2 (by decide) (fun _ => rfl) rfl inX10 (by decide) (fun _ => rfl) h5 tyX10 tyX10_ok nmX10 rfl (Nat.le_of_ble_eq_true rfl) kc_367 rfl (nar_I _) (fit_I _) dX11_put_60 ?_
    refine T_blS (fun s12 => ?_)
    refine T_aload_n (pc := 63) C dX11_put_63 rfl 1 rfl ?_
    refine T_dup (pc := 64) C dX11_put_64 rfl ?_
    refine Tc_geti (pc := 65) C r0 11 1 6 k0 (by decide) (fun _ => rfl) rfl inX11 (by decide) rfl kc_244 dX11_put_65 (fun z13 => ?_)
    refine T_iconst (pc := 68) C dX11_put_68 ?_
    refine T_iadd (pc := 69) C dX11_put_69 ?_
    refine T_guard (fun g14 => ?_)
    refine Tc_put (pc := 70) C (ty := .int) r0 11 1 6 k0 (by decide) (fun _ => rfl) rfl inX11 (by decide) (fun _ => rfl) g14 tyX11 tyX11_ok nmX11 rfl (Nat.le_of_ble_eq_true rfl) kc_244 rfl (nar_I _) (fit_I _) dX11_put_70 ?_
    refine T_blS (fun s15 => ?_)
    refine T_aload_n (pc := 73) C dX11_put_73 rfl 1 rfl ?_
    refine T_dup (pc := 74) C dX11_put_74 rfl ?_
    refine Tc_geti (pc := 75) C r0 11 2 6 k0 (by decide) (fun _ => rfl) rfl inX11 (by decide) rfl kc_245 dX11_put_75 (fun z16 => ?_)
    refine T_iconst (pc := 78) C dX11_put_78 ?_
    refine T_iadd (pc := 79) C dX11_put_79 ?_
    refine T_guard (fun g17 => ?_)
    refine Tc_put (pc := 80) C (ty := .int) r0 11 2 6 k0 (by decide) (fun _ => rfl) rfl inX11 (by decide) (fun _ => rfl) g17 tyX11 tyX11_ok nmX11 rfl (Nat.le_of_ble_eq_true rfl) kc_245 rfl (nar_I _) (fit_I _) dX11_put_80 ?_
    refine T_blS (fun s18 => ?_)
    refine T_aload_n (pc := 83) C dX11_put_83 rfl 1 rfl ?_
    refine T_dup (pc := 84) C dX11_put_84 rfl ?_
    refine Tc_geti (pc := 85) C r0 11 3 6 k0 (by decide) (fun _ => rfl) rfl inX11 (by decide) rfl kc_246 dX11_put_85 (fun z19 => ?_)
    refine T_iload (pc := 88) C dX11_put_88 6 rfl ?_
    refine T_iadd (pc := 90) C dX11_put_90 ?_
    refine T_guard (fun g20 => ?_)
    refine Tc_put (pc := 91) C (ty := .int) r0 11 3 6 k0 (by decide) (fun _ => rfl) rfl inX11 (by decide) (fun _ => rfl) g20 tyX11 tyX11_ok nmX11 rfl (Nat.le_of_ble_eq_true rfl) kc_246 rfl (nar_I _) (fit_I _) dX11_put_91 ?_
    refine T_blS (fun s21 => ?_)
    refine T_aload (pc := 94) C dX11_put_94 0 rfl ?_
    refine Tc_geti (pc := 96) C (σ (r0 + 1) (σ r0 1).toNat).toNat 10 0 6 y5.2 (by decide) (fun _ => rfl) rfl inX10 (by decide) rfl kc_365 dX11_put_96 (fun z22 => ?_)
    exact T_iret (pc := 99) (s21, (s21 (σ (r0 + 1) (σ r0 1).toNat).toNat 0)) (fun h9 => h9) z22 (nar_I _) (by decide) dX11_put_99
  · refine T_iconst (pc := 9) C dX11_put_9 ?_
    exact T_iret (pc := 10) (σ, (-1)) (fun h9 => h9) (rngL rfl) (nar_I _) (by decide) dX11_put_10

abbrev rm_X8_putTicket : Room := ⟨1, 0, 0, 26⟩
theorem cm_X8_putTicket : cmV yX8_putTicket cX8_putTicket 6 (some .int) 4 := ⟨kc_58, kc_147, ⟨by decide +kernel, by decide +kernel, by decide +kernel⟩, kc_371, kc_372⟩
def f_X8_putTicket (σ : Sm) (r0 : Nat) (x1 : Int) (x2 : Int) (x3 : Int) (x4 : Int) : Option (Sm × Int) :=
  (if (σ r0 1) = 0 then bl ((x4 - x3) * 3) fun v3 => if rng v3 then (f_X11_put σ (r0 + 5) x1 x2 x3 x4 v3).bind fun v5 => some (v5.1, v5.2) else none else bl ((x4 - x3) * 2) fun v6 => if rng v6 then (f_X11_put σ (r0 + 5) x1 x2 x3 x4 v6).bind fun v8 => some (v8.1, v8.2) else none)
theorem ct_X8_putTicket {l : Launch} {cy : Nat → ClassId} {ad : Nat → Nat} {E : Nat → Nat → Nat} {G : va_G} {Z : vZ} (zk : Zk Z E) (σ : Sm) (r0 : Nat) (x1 : Int) (x2 : Int) (x3 : Int) (x4 : Int) (k0 : kd r0 = 8) (h1 : rng x1) (h2 : rng x2) (h3 : rng x3) (h4 : rng x4) (hw : wfc σ) (o : Sm × Int) (h : f_X8_putTicket σ r0 x1 x2 x3 x4 = some o) : CzI Z l yX8_putTicket cX8_putTicket 6 (some .int) rm_X8_putTicket (wlc cy ad E) wfc G (tyc cy) [.ref (ad r0), vi x1, vi x2, vi x3, vi x4] σ o.1 o.2 := by
  refine czI_of zk.1 (plainFor_of_name (by decide)) (Nat.le_of_ble_eq_true rfl) hw o o h (fun X Y w => EndI X Y cX8_putTicket rm_X8_putTicket .int w) (fun _ _ h => h) (fun X A Q hZ hX C => ?_)
  replace C : Cx X (Yc cy ad E G A 6 Q) cX8_putTicket RX8 (some .int) rm_X8_putTicket (tyc cy) := C
  replace hZ : Zx Z X (Yc cy ad E G A 6 Q) := hZ
  show T X (Yc cy ad E G A 6 Q) (fun w => EndI X (Yc cy ad E G A 6 Q) cX8_putTicket rm_X8_putTicket .int w) 0 0 0 [(0, .ref (ad r0)), (1, vi x1), (2, vi x2), (3, vi x3), (4, vi x4)] [] σ (f_X8_putTicket σ r0 x1 x2 x3 x4)
  unfold f_X8_putTicket
  refine T_iload (pc := 0) C dX8_putTicket_0 4 rfl ?_
  refine T_iload_n (pc := 2) C dX8_putTicket_2 rfl 3 rfl ?_
  refine T_isub (pc := 3) C dX8_putTicket_3 ?_
  refine T_aload_n (pc := 4) C dX8_putTicket_4 rfl 0 rfl ?_
  refine Tc_geti (pc := 5) C r0 8 1 10 k0 (by decide) (fun _ => rfl) rfl inX8 (by decide) rfl kc_262 dX8_putTicket_5 (fun z1 => ?_)
  refine T_if_eq (pc := 8) C 15 dX8_putTicket_8 rfl (bit_rng (z1.2 rfl)) (fun c2 => ?_) (fun c2 => ?_)
  · refine T_iconst (pc := 15) C dX8_putTicket_15 ?_
    refine T_imul (pc := 16) C dX8_putTicket_16 ?_
    refine T_blN (fun v3 => ?_)
    refine T_istore (pc := 17) (L' := [(5, vi v3), (0, .ref (ad r0)), (1, vi x1), (2, vi x2), (3, vi x3), (4, vi x4)]) C dX8_putTicket_17 (Nat.le_of_ble_eq_true rfl) rfl ?_
    refine T_aload_n (pc := 19) C dX8_putTicket_19 rfl 1 rfl ?_
    refine Tc_getr (pc := 20) C r0 8 9 10 k0 (by decide) (fun _ => rfl) rfl inX8 (by decide) (v := .ref (ad (r0 + 5))) rfl kc_270 dX8_putTicket_20 ?_
    refine T_iload_n (pc := 23) C dX8_putTicket_23 rfl 2 rfl ?_
    refine T_iload_n (pc := 24) C dX8_putTicket_24 rfl 3 rfl ?_
    refine T_iload_n (pc := 25) C dX8_putTicket_25 rfl 4 rfl ?_
    refine T_iload (pc := 26) C dX8_putTicket_26 5 rfl ?_
    refine T_iload (pc := 28) C dX8_putTicket_28 0 rfl ?_
    refine T_guard (fun g4 => ?_)
    refine T_czVi (pc := 30) zk.1 hZ C [vi x1, vi x2, vi x3, vi x4, vi v3] [] (fun o h9 hw => ct_X11_put zk σ (r0 + 5) x1 x2 x3 x4 v3 (kd_8 k0).2.2.2.2.1 h1 h2 h3 h4 g4 hw o h9) kc_370 cm_X11_put (rcc (kd_8 k0).2.2.2.2.1 (by decide) (fun _ => rfl) rfl) rfl rfl (Nat.le_of_ble_eq_true rfl) (by decide) (a' := 0) (b' := 0) ⟨rfl, rfl⟩ dX8_putTicket_30 (fun v5 hv5 => ?_)
    exact T_iret (pc := 33) (v5.1, v5.2) (fun h9 => h9) hv5.1 (nar_I _) (by decide) dX8_putTicket_33
  · refine T_iconst (pc := 11) C dX8_putTicket_11 ?_
    refine T_goto (pc := 12) C 16 dX8_putTicket_12 rfl ?_
    refine T_imul (pc := 16) C dX8_putTicket_16 ?_
    refine T_blN (fun v6 => ?_)
    refine T_istore (pc := 17) (L' := [(5, vi v6), (0, .ref (ad r0)), (1, vi x1), (2, vi x2), (3, vi x3), (4, vi x4)]) C dX8_putTicket_17 (Nat.le_of_ble_eq_true rfl) rfl ?_
    refine T_aload_n (pc := 19) C dX8_putTicket_19 rfl 1 rfl ?_
    refine Tc_getr (pc := 20) C r0 8 9 10 k0 (by decide) (fun _ => rfl) rfl inX8 (by decide) (v := .ref (ad (r0 + 5))) rfl kc_270 dX8_putTicket_20 ?_
    refine T_iload_n (pc := 23) C dX8_putTicket_23 rfl 2 rfl ?_
    refine T_iload_n (pc := 24) C dX8_putTicket_24 rfl 3 rfl ?_
    refine T_iload_n (pc := 25) C dX8_putTicket_25 rfl 4 rfl ?_
    refine T_iload (pc := 26) C dX8_putTicket_26 5 rfl ?_
    refine T_iload (pc := 28) C dX8_putTicket_28 0 rfl ?_
    refine T_guard (fun g7 => ?_)
    refine T_czVi (pc := 30) zk.1 hZ C [vi x1, vi x2, vi x3, vi x4, vi v6] [] (fun o h9 hw => ct_X11_put zk σ (r0 + 5) x1 x2 x3 x4 v6 (kd_8 k0).2.2.2.2.1 h1 h2 h3 h4 g7 hw o h9) kc_370 cm_X11_put (rcc (kd_8 k0).2.2.2.2.1 (by decide) (fun _ => rfl) rfl) rfl rfl (Nat.le_of_ble_eq_true rfl) (by decide) (a' := 0) (b' := 0) ⟨rfl, rfl⟩ dX8_putTicket_30 (fun v8 hv8 => ?_)
    exact T_iret (pc := 33) (v8.1, v8.2) (fun h9 => h9) hv8.1 (nar_I _) (by decide) dX8_putTicket_33

abbrev rm_X11_changeAt : Room := ⟨1, 0, 0, 22⟩
theorem cm_X11_changeAt : cmV yX11_changeAt cX11_changeAt 7 (some .int) 3 := ⟨kc_89, kc_251, ⟨by decide +kernel, by decide +kernel, by decide +kernel⟩, kc_373, kc_374⟩
def f_X11_changeAt_6 (σ : Sm) (r0 : Nat) (x1 : Int) (x2 : Int) (x3 : Int) : Nat → Int → Int → Option (Int)
  | 0, _, _ => none
  | n + 1, x4, x5 => (if (σ r0 1) ≤ x5 then some x4 else if 0 ≤ x5 ∧ x5 < 16 then (f_X10_isFor σ (σ (r0 + 1) x5.toNat).toNat x1 x2).bind fun v25 => (if v25 = 0 then (f_X10_isFor σ (σ (r0 + 1) x5.toNat).toNat x1 x2).bind fun v27 => (if v27 = 0 then f_X11_changeAt_6 σ r0 x1 x2 x3 n x4 (x5 + 1) else (if (σ (σ (r0 + 1) x5.toNat).toNat 4) = x3 then if rng (x4 + (-1)) then f_X11_changeAt_6 σ r0 x1 x2 x3 n (x4 + (-1)) (x5 + 1) else none else f_X11_changeAt_6 σ r0 x1 x2 x3 n x4 (x5 + 1))) else (if (σ (σ (r0 + 1) x5.toNat).toNat 3) = x3 then (f_X10_isFor σ (σ (r0 + 1) x5.toNat).toNat x1 x2).bind fun v39 => (if v39 = 0 then if rng (x4 + 1) then f_X11_changeAt_6 σ r0 x1 x2 x3 n (x4 + 1) (x5 + 1) else none else (if (σ (σ (r0 + 1) x5.toNat).toNat 4) = x3 then if rng ((x4 + 1) + (-1)) then f_X11_changeAt_6 σ r0 x1 x2 x3 n ((x4 + 1) + (-1)) (x5 + 1) else none else if rng (x4 + 1) then f_X11_changeAt_6 σ r0 x1 x2 x3 n (x4 + 1) (x5 + 1) else none)) else (f_X10_isFor σ (σ (r0 + 1) x5.toNat).toNat x1 x2).bind fun v34 => (if v34 = 0 then f_X11_changeAt_6 σ r0 x1 x2 x3 n x4 (x5 + 1) else (if (σ (σ (r0 + 1) x5.toNat).toNat 4) = x3 then if rng (x4 + (-1)) then f_X11_changeAt_6 σ r0 x1 x2 x3 n (x4 + (-1)) (x5 + 1) else none else f_X11_changeAt_6 σ r0 x1 x2 x3 n x4 (x5 + 1))))) else none)
theorem lp_X11_changeAt_6 {X : vjX} {A : Nat → Prop} {Q : State → Prop} {cy : Nat → ClassId} {ad : Nat → Nat} {E : Nat → Nat → Nat} {G : va_G} {Z : vZ} (zk : Zk Z E) (hZ : Zx Z X (Yc cy ad E G A 7 Q)) (C : Cx X (Yc cy ad E G A 7 Q) cX11_changeAt RX11 (some .int) rm_X11_changeAt (tyc cy)) (σ : Sm) (r0 : Nat) (k0 : kd r0 = 11) (x1 : Int) (x2 : Int) (x3 : Int) (h1 : rng x1) (h2 : rng x2) (h3 : rng x3) : ∀ (n : Nat) (x4 : Int) (x5 : Int) (h4 : rng x4) (h5 : rng x5), T X (Yc cy ad E G A 7 Q) (fun (q : Int) => rng q → J X (Yc cy ad E G A 7 Q) 0 0 74 [(4, vi q)] [] σ) 0 0 6 [(0, .ref (ad r0)), (1, vi x1), (2, vi x2), (3, vi x3), (4, vi x4), (5, vi x5)] [] σ (f_X11_changeAt_6 σ r0 x1 x2 x3 n x4 x5) := by
  intro n
  induction n with
  | zero => intro x4 x5 h4 h5; exact T_none
  | succ n ih =>
    intro x4 x5 h4 h5
    rw [f_X11_changeAt_6]
    refine T_iload (pc := 6) C dX11_changeAt_6 5 rfl ?_
    refine T_aload_n (pc := 8) C dX11_changeAt_8 rfl 0 rfl ?_
    refine Tc_geti (pc := 9) C r0 11 1 6 k0 (by decide) (fun _ => rfl) rfl inX11 (by decide) rfl kc_244 dX11_changeAt_9 (fun z21 => ?_)
    refine T_icmp_ge (pc := 12) C 74 dX11_changeAt_12 rfl h5 z21 (fun c22 => ?_) (fun c22 => ?_)
    · refine T_sub (L' := [(4, vi x4)]) [4] rfl ?_
      exact T_exit (fun h9 => h9 h4)
    · refine T_aload_n (pc := 15) C dX11_changeAt_15 rfl 0 rfl ?_
      refine Tc_getr (pc := 16) C r0 11 0 6 k0 (by decide) (fun _ => rfl) rfl inX11 (by decide) (v := .ref (ad (r0 + 1))) rfl kc_249 dX11_changeAt_16 ?_
      refine T_iload (pc := 19) C dX11_changeAt_19 5 rfl ?_
      refine T_guard (fun g23 => ?_)
      refine Tc_ald28 (pc := 21) C (r0 + 1) x5.toNat (kd_11 k0) g23 rfl dX11_changeAt_21 (fun y24 => ?_)
      refine T_astore (pc := 22) (L' := [(6, .ref (ad (σ (r0 + 1) x5.toNat).toNat)), (0, .ref (ad r0)), (1, vi x1), (2, vi x2), (3, vi x3), (4, vi x4), (5, vi x5)]) C dX11_changeAt_22 (Nat.le_of_ble_eq_true rfl) rfl ?_
      refine T_aload (pc := 24) C dX11_changeAt_24 0 rfl ?_
      refine T_iload_n (pc := 26) C dX11_changeAt_26 rfl 2 rfl ?_
      refine T_iload_n (pc := 27) C dX11_changeAt_27 rfl 3 rfl ?_
      refine T_czVip (pc := 28) zk.1 hZ C [vi x1, vi x2] [] (fun o h9 hw => ct_X10_isFor zk σ (σ (r0 + 1) x5.toNat).toNat x1 x2 y24.2 h1 h2 hw o h9) kc_349 cm_X10_isFor (rcc y24.2 (by decide) (fun _ => rfl) rfl) rfl rfl (Nat.le_of_ble_eq_true rfl) (by decide) (a' := 0) (b' := 0) ⟨rfl, rfl⟩ dX11_changeAt_28 (fun v25 hv25 => ?_)
      refine T_if_eq (pc := 31) C 46 dX11_changeAt_31 rfl hv25.1 (fun c26 => ?_) (fun c26 => ?_)
      · refine T_aload (pc := 46) C dX11_changeAt_46 0 rfl ?_
        refine T_iload_n (pc := 48) C dX11_changeAt_48 rfl 2 rfl ?_
        refine T_iload_n (pc := 49) C dX11_changeAt_49 rfl 3 rfl ?_
        refine T_czVip (pc := 50) zk.1 hZ C [vi x1, vi x2] [] (fun o h9 hw => ct_X10_isFor zk σ (σ (r0 + 1) x5.toNat).toNat x1 x2 y24.2 h1 h2 hw o h9) kc_349 cm_X10_isFor (rcc y24.2 (by decide) (fun _ => rfl) rfl) rfl rfl (Nat.le_of_ble_eq_true rfl) (by decide) (a' := 0) (b' := 0) ⟨rfl, rfl⟩ dX11_changeAt_50 (fun v27 hv27 => ?_)
        refine T_if_eq (pc := 53) C 68 dX11_changeAt_53 rfl hv27.1 (fun c28 => ?_) (fun c28 => ?_)
        · refine T_iinc (pc := 68) (L' := [(5, vi (x5 + 1)), (6, .ref (ad (σ (r0 + 1) x5.toNat).toNat)), (0, .ref (ad r0)), (1, vi x1), (2, vi x2), (3, vi x3), (4, vi x4)]) C dX11_changeAt_68 (Nat.le_of_ble_eq_true rfl) 6 rfl rfl ?_
          refine T_goto (pc := 71) C 6 dX11_changeAt_71 rfl ?_
          refine T_sub (L' := [(0, .ref (ad r0)), (1, vi x1), (2, vi x2), (3, vi x3), (4, vi x4), (5, vi (x5 + 1))]) [2, 3, 4, 5, 6, 0] rfl ?_
          exact ih x4 (x5 + 1) h4 (rng_inc c22 h5 z21)
        · refine T_aload (pc := 56) C dX11_changeAt_56 0 rfl ?_
          refine Tc_geti (pc := 58) C (σ (r0 + 1) x5.toNat).toNat 10 4 6 y24.2 (by decide) (fun _ => rfl) rfl inX10 (by decide) rfl kc_351 dX11_changeAt_58 (fun z29 => ?_)
          refine T_iload_n (pc := 61) C dX11_changeAt_61 rfl 4 rfl ?_
          refine T_icmp_ne (pc := 62) C 68 dX11_changeAt_62 rfl z29 h3 (fun c30 => ?_) (fun c30 => ?_)
          · refine T_iinc (pc := 68) (L' := [(5, vi (x5 + 1)), (6, .ref (ad (σ (r0 + 1) x5.toNat).toNat)), (0, .ref (ad r0)), (1, vi x1), (2, vi x2), (3, vi x3), (4, vi x4)]) C dX11_changeAt_68 (Nat.le_of_ble_eq_true rfl) 6 rfl rfl ?_
            refine T_goto (pc := 71) C 6 dX11_changeAt_71 rfl ?_
            refine T_sub (L' := [(0, .ref (ad r0)), (1, vi x1), (2, vi x2), (3, vi x3), (4, vi x4), (5, vi (x5 + 1))]) [2, 3, 4, 5, 6, 0] rfl ?_
            exact ih x4 (x5 + 1) h4 (rng_inc c22 h5 z21)
          · refine T_iinc (pc := 65) (L' := [(4, vi (x4 + (-1))), (6, .ref (ad (σ (r0 + 1) x5.toNat).toNat)), (0, .ref (ad r0)), (1, vi x1), (2, vi x2), (3, vi x3), (5, vi x5)]) C dX11_changeAt_65 (Nat.le_of_ble_eq_true rfl) 5 rfl rfl ?_
            refine T_iinc (pc := 68) (L' := [(5, vi (x5 + 1)), (4, vi (x4 + (-1))), (6, .ref (ad (σ (r0 + 1) x5.toNat).toNat)), (0, .ref (ad r0)), (1, vi x1), (2, vi x2), (3, vi x3)]) C dX11_changeAt_68 (Nat.le_of_ble_eq_true rfl) 6 rfl rfl ?_
            refine T_goto (pc := 71) C 6 dX11_changeAt_71 rfl ?_
            refine T_sub (L' := [(0, .ref (ad r0)), (1, vi x1), (2, vi x2), (3, vi x3), (4, vi (x4 + (-1))), (5, vi (x5 + 1))]) [3, 4, 5, 6, 1, 0] rfl ?_
            refine T_guard (fun g31 => ?_)
            exact ih (x4 + (-1)) (x5 + 1) g31 (rng_inc c22 h5 z21)
      · refine T_aload (pc := 34) C dX11_changeAt_34 0 rfl ?_
        refine Tc_geti (pc := 36) C (σ (r0 + 1) x5.toNat).toNat 10 3 6 y24.2 (by decide) (fun _ => rfl) rfl inX10 (by decide) rfl kc_350 dX11_changeAt_36 (fun z32 => ?_)
        refine T_iload_n (pc := 39) C dX11_changeAt_39 rfl 4 rfl ?_
        refine T_icmp_ne (pc := 40) C 46 dX11_changeAt_40 rfl z32 h3 (fun c33 => ?_) (fun c33 => ?_)
        · refine T_aload (pc := 46) C dX11_changeAt_46 0 rfl ?_
          refine T_iload_n (pc := 48) C dX11_changeAt_48 rfl 2 rfl ?_
          refine T_iload_n (pc := 49) C dX11_changeAt_49 rfl 3 rfl ?_
          refine T_czVip (pc := 50) zk.1 hZ C [vi x1, vi x2] [] (fun o h9 hw => ct_X10_isFor zk σ (σ (r0 + 1) x5.toNat).toNat x1 x2 y24.2 h1 h2 hw o h9) kc_349 cm_X10_isFor (rcc y24.2 (by decide) (fun _ => rfl) rfl) rfl rfl (Nat.le_of_ble_eq_true rfl) (by decide) (a' := 0) (b' := 0) ⟨rfl, rfl⟩ dX11_changeAt_50 (fun v34 hv34 => ?_)
          refine T_if_eq (pc := 53) C 68 dX11_changeAt_53 rfl hv34.1 (fun c35 => ?_) (fun c35 => ?_)
          · refine T_iinc (pc := 68) (L' := [(5, vi (x5 + 1)), (6, .ref (ad (σ (r0 + 1) x5.toNat).toNat)), (0, .ref (ad r0)), (1, vi x1), (2, vi x2), (3, vi x3), (4, vi x4)]) C dX11_changeAt_68 (Nat.le_of_ble_eq_true rfl) 6 rfl rfl ?_
            refine T_goto (pc := 71) C 6 dX11_changeAt_71 rfl ?_
            refine T_sub (L' := [(0, .ref (ad r0)), (1, vi x1), (2, vi x2), (3, vi x3), (4, vi x4), (5, vi (x5 + 1))]) [2, 3, 4, 5, 6, 0] rfl ?_
            exact ih x4 (x5 + 1) h4 (rng_inc c22 h5 z21)
          · refine T_aload (pc := 56) C dX11_changeAt_56 0 rfl ?_
            refine Tc_geti (pc := 58) C (σ (r0 + 1) x5.toNat).toNat 10 4 6 y24.2 (by decide) (fun _ => rfl) rfl inX10 (by decide) rfl kc_351 dX11_changeAt_58 (fun z36 => ?_)
            refine T_iload_n (pc := 61) C dX11_changeAt_61 rfl 4 rfl ?_
            refine T_icmp_ne (pc := 62) C 68 dX11_changeAt_62 rfl z36 h3 (fun c37 => ?_) (fun c37 => ?_)
            · refine T_iinc (pc := 68) (L' := [(5, vi (x5 + 1)), (6, .ref (ad (σ (r0 + 1) x5.toNat).toNat)), (0, .ref (ad r0)), (1, vi x1), (2, vi x2), (3, vi x3), (4, vi x4)]) C dX11_changeAt_68 (Nat.le_of_ble_eq_true rfl) 6 rfl rfl ?_
              refine T_goto (pc := 71) C 6 dX11_changeAt_71 rfl ?_
              refine T_sub (L' := [(0, .ref (ad r0)), (1, vi x1), (2, vi x2), (3, vi x3), (4, vi x4), (5, vi (x5 + 1))]) [2, 3, 4, 5, 6, 0] rfl ?_
              exact ih x4 (x5 + 1) h4 (rng_inc c22 h5 z21)
            · refine T_iinc (pc := 65) (L' := [(4, vi (x4 + (-1))), (6, .ref (ad (σ (r0 + 1) x5.toNat).toNat)), (0, .ref (ad r0)), (1, vi x1), (2, vi x2), (3, vi x3), (5, vi x5)]) C dX11_changeAt_65 (Nat.le_of_ble_eq_true rfl) 5 rfl rfl ?_
              refine T_iinc (pc := 68) (L' := [(5, vi (x5 + 1)), (4, vi (x4 + (-1))), (6, .ref (ad (σ (r0 + 1) x5.toNat).toNat)), (0, .ref (ad r0)), (1, vi x1), (2, vi x2), (3, vi x3)]) C dX11_changeAt_68 (Nat.le_of_ble_eq_true rfl) 6 rfl rfl ?_
              refine T_goto (pc := 71) C 6 dX11_changeAt_71 rfl ?_
              refine T_sub (L' := [(0, .ref (ad r0)), (1, vi x1), (2, vi x2), (3, vi x3), (4, vi (x4 + (-1))), (5, vi (x5 + 1))]) [3, 4, 5, 6, 1, 0] rfl ?_
              refine T_guard (fun g38 => ?_)
              exact ih (x4 + (-1)) (x5 + 1) g38 (rng_inc c22 h5 z21)
        · refine T_iinc (pc := 43) (L' := [(4, vi (x4 + 1)), (6, .ref (ad (σ (r0 + 1) x5.toNat).toNat)), (0, .ref (ad r0)), (1, vi x1), (2, vi x2), (3, vi x3), (5, vi x5)]) C dX11_changeAt_43 (Nat.le_of_ble_eq_true rfl) 5 rfl rfl ?_
          refine T_aload (pc := 46) C dX11_changeAt_46 1 rfl ?_
          refine T_iload_n (pc := 48) C dX11_changeAt_48 rfl 3 rfl ?_
          refine T_iload_n (pc := 49) C dX11_changeAt_49 rfl 4 rfl ?_
          refine T_czVip (pc := 50) zk.1 hZ C [vi x1, vi x2] [] (fun o h9 hw => ct_X10_isFor zk σ (σ (r0 + 1) x5.toNat).toNat x1 x2 y24.2 h1 h2 hw o h9) kc_349 cm_X10_isFor (rcc y24.2 (by decide) (fun _ => rfl) rfl) rfl rfl (Nat.le_of_ble_eq_true rfl) (by decide) (a' := 0) (b' := 0) ⟨rfl, rfl⟩ dX11_changeAt_50 (fun v39 hv39 => ?_)
          refine T_if_eq (pc := 53) C 68 dX11_changeAt_53 rfl hv39.1 (fun c40 => ?_) (fun c40 => ?_)
          · refine T_iinc (pc := 68) (L' := [(5, vi (x5 + 1)), (4, vi (x4 + 1)), (6, .ref (ad (σ (r0 + 1) x5.toNat).toNat)), (0, .ref (ad r0)), (1, vi x1), (2, vi x2), (3, vi x3)]) C dX11_changeAt_68 (Nat.le_of_ble_eq_true rfl) 6 rfl rfl ?_
            refine T_goto (pc := 71) C 6 dX11_changeAt_71 rfl ?_
            refine T_sub (L' := [(0, .ref (ad r0)), (1, vi x1), (2, vi x2), (3, vi x3), (4, vi (x4 + 1)), (5, vi (x5 + 1))]) [3, 4, 5, 6, 1, 0] rfl ?_
            refine T_guard (fun g41 => ?_)
            exact ih (x4 + 1) (x5 + 1) g41 (rng_inc c22 h5 z21)
          · refine T_aload (pc := 56) C dX11_changeAt_56 1 rfl ?_
            refine Tc_geti (pc := 58) C (σ (r0 + 1) x5.toNat).toNat 10 4 6 y24.2 (by decide) (fun _ => rfl) rfl inX10 (by decide) rfl kc_351 dX11_changeAt_58 (fun z42 => ?_)
            refine T_iload_n (pc := 61) C dX11_changeAt_61 rfl 5 rfl ?_
            refine T_icmp_ne (pc := 62) C 68 dX11_changeAt_62 rfl z42 h3 (fun c43 => ?_) (fun c43 => ?_)
            · refine T_iinc (pc := 68) (L' := [(5, vi (x5 + 1)), (4, vi (x4 + 1)), (6, .ref (ad (σ (r0 + 1) x5.toNat).toNat)), (0, .ref (ad r0)), (1, vi x1), (2, vi x2), (3, vi x3)]) C dX11_changeAt_68 (Nat.le_of_ble_eq_true rfl) 6 rfl rfl ?_
              refine T_goto (pc := 71) C 6 dX11_changeAt_71 rfl ?_
              refine T_sub (L' := [(0, .ref (ad r0)), (1, vi x1), (2, vi x2), (3, vi x3), (4, vi (x4 + 1)), (5, vi (x5 + 1))]) [3, 4, 5, 6, 1, 0] rfl ?_
              refine T_guard (fun g44 => ?_)
              exact ih (x4 + 1) (x5 + 1) g44 (rng_inc c22 h5 z21)
            · refine T_iinc (pc := 65) (L' := [(4, vi ((x4 + 1) + (-1))), (6, .ref (ad (σ (r0 + 1) x5.toNat).toNat)), (0, .ref (ad r0)), (1, vi x1), (2, vi x2), (3, vi x3), (5, vi x5)]) C dX11_changeAt_65 (Nat.le_of_ble_eq_true rfl) 0 rfl rfl ?_
              refine T_iinc (pc := 68) (L' := [(5, vi (x5 + 1)), (4, vi ((x4 + 1) + (-1))), (6, .ref (ad (σ (r0 + 1) x5.toNat).toNat)), (0, .ref (ad r0)), (1, vi x1), (2, vi x2), (3, vi x3)]) C dX11_changeAt_68 (Nat.le_of_ble_eq_true rfl) 6 rfl rfl ?_
              refine T_goto (pc := 71) C 6 dX11_changeAt_71 rfl ?_
              refine T_sub (L' := [(0, .ref (ad r0)), (1, vi x1), (2, vi x2), (3, vi x3), (4, vi ((x4 + 1) + (-1))), (5, vi (x5 + 1))]) [3, 4, 5, 6, 1, 0] rfl ?_
              refine T_guard (fun g45 => ?_)
              exact ih ((x4 + 1) + (-1)) (x5 + 1) g45 (rng_inc c22 h5 z21)
def f_X11_changeAt (N : Nat) (σ : Sm) (r0 : Nat) (x1 : Int) (x2 : Int) (x3 : Int) : Option Int :=
  (f_X11_changeAt_6 σ r0 x1 x2 x3 N 0 0).bind fun q46 => some q46
theorem ct_X11_changeAt {l : Launch} {cy : Nat → ClassId} {ad : Nat → Nat} {E : Nat → Nat → Nat} {G : va_G} {Z : vZ} (zk : Zk Z E) (N : Nat) (σ : Sm) (r0 : Nat) (x1 : Int) (x2 : Int) (x3 : Int) (k0 : kd r0 = 11) (h1 : rng x1) (h2 : rng x2) (h3 : rng x3) (hw : wfc σ) (o : Int) (h : f_X11_changeAt N σ r0 x1 x2 x3 = some o) : CzI Z l yX11_changeAt cX11_changeAt 7 (some .int) rm_X11_changeAt (wlc cy ad E) wfc G (tyc cy) [.ref (ad r0), vi x1, vi x2, vi x3] σ σ o := by
  refine czI_of zk.1 (plainFor_of_name (by decide)) (Nat.le_of_ble_eq_true rfl) hw (σ, o) o h (fun X Y v => EndI X Y cX11_changeAt rm_X11_changeAt .int (σ, v)) (fun _ _ h => h) (fun X A Q hZ hX C => ?_)
  replace C : Cx X (Yc cy ad E G A 7 Q) cX11_changeAt RX11 (some .int) rm_X11_changeAt (tyc cy) := C
  replace hZ : Zx Z X (Yc cy ad E G A 7 Q) := hZ
  show T X (Yc cy ad E G A 7 Q) (fun v => EndI X (Yc cy ad E G A 7 Q) cX11_changeAt rm_X11_changeAt .int (σ, v)) 0 0 0 [(0, .ref (ad r0)), (1, vi x1), (2, vi x2), (3, vi x3)] [] σ (f_X11_changeAt N σ r0 x1 x2 x3)
  unfold f_X11_changeAt
  refine T_iconst (pc := 0) C dX11_changeAt_0 ?_
  refine T_istore (pc := 1) (L' := [(4, vi 0), (0, .ref (ad r0)), (1, vi x1), (2, vi x2), (3, vi x3)]) C dX11_changeAt_1 (Nat.le_of_ble_eq_true rfl) rfl ?_
  refine T_iconst (pc := 3) C dX11_changeAt_3 ?_
  refine T_istore (pc := 4) (L' := [(5, vi 0), (4, vi 0), (0, .ref (ad r0)), (1, vi x1), (2, vi x2), (3, vi x3)]) C dX11_changeAt_4 (Nat.le_of_ble_eq_true rfl) rfl ?_
  refine T_sub (L' := [(0, .ref (ad r0)), (1, vi x1), (2, vi x2), (3, vi x3), (4, vi 0), (5, vi 0)]) [2, 3, 4, 5, 1, 0] rfl ?_
  refine T_loopE (lp_X11_changeAt_6 zk hZ C σ r0 k0 x1 x2 x3 h1 h2 h3 N 0 0 (rngL rfl) (rngL rfl)) (fun q46 hq46 => ?_)
  refine T_iload (pc := 74) C dX11_changeAt_74 0 rfl ?_
  exact T_iret (pc := 76) q46 (fun h9 => h9) hq46 (nar_I _) (by decide) dX11_changeAt_76

abbrev rm_X8_seatsLeftSwept : Room := ⟨2, 0, 0, 48⟩
theorem cm_X8_seatsLeftSwept : cmV yX8_seatsLeftSwept cX8_seatsLeftSwept 8 (some .int) 4 := ⟨kc_60, kc_147, ⟨by decide +kernel, by decide +kernel, by decide +kernel⟩, kc_376, kc_377⟩
def f_X8_seatsLeftSwept_9 (N : Nat) (σ : Sm) (r0 : Nat) (x1 : Int) (x2 : Int) (x3 : Int) (x4 : Int) : Nat → Int → Int → Int → Option (Int)
  | 0, _, _, _ => none
  | n + 1, x5, x6, x7 => (if x4 ≤ x7 then some x6 else (f_X11_changeAt N σ (r0 + 5) x1 x2 x7).bind fun v19 => bl (x5 + v19) fun v20 => (if x7 < x3 then if rng v20 then f_X8_seatsLeftSwept_9 N σ r0 x1 x2 x3 x4 n v20 x6 (x7 + 1) else none else if rng v20 then (f_J9_max_7cf53 x6 v20).bind fun v24 => f_X8_seatsLeftSwept_9 N σ r0 x1 x2 x3 x4 n v20 v24 (x7 + 1) else none))
theorem lp_X8_seatsLeftSwept_9 {X : vjX} {A : Nat → Prop} {Q : State → Prop} {cy : Nat → ClassId} {ad : Nat → Nat} {E : Nat → Nat → Nat} {G : va_G} {Z : vZ} (zk : Zk Z E) (hZ : Zx Z X (Yc cy ad E G A 8 Q)) (C : Cx X (Yc cy ad E G A 8 Q) cX8_seatsLeftSwept RX8 (some .int) rm_X8_seatsLeftSwept (tyc cy)) (N : Nat) (σ : Sm) (r0 : Nat) (k0 : kd r0 = 8) (x1 : Int) (x2 : Int) (x3 : Int) (x4 : Int) (h1 : rng x1) (h2 : rng x2) (h3 : rng x3) (h4 : rng x4) : ∀ (n : Nat) (x5 : Int) (x6 : Int) (x7 : Int) (h5 : rng x5) (h6 : rng x6) (h7 : rng x7), T X (Yc cy ad E G A 8 Q) (fun (q : Int) => rng q → J X (Yc cy ad E G A 8 Q) 0 0 53 [(0, .ref (ad r0)), (1, vi x1), (6, vi q)] [] σ) 0 0 9 [(0, .ref (ad r0)), (1, vi x1), (2, vi x2), (3, vi x3), (4, vi x4), (5, vi x5), (6, vi x6), (7, vi x7)] [] σ (f_X8_seatsLeftSwept_9 N σ r0 x1 x2 x3 x4 n x5 x6 x7) := by
  intro n
  induction n with
  | zero => intro x5 x6 x7 h5 h6 h7; exact T_none
  | succ n ih =>
    intro x5 x6 x7 h5 h6 h7
    rw [f_X8_seatsLeftSwept_9]
    refine T_iload (pc := 9) C dX8_seatsLeftSwept_9 7 rfl ?_
    refine T_iload (pc := 11) C dX8_seatsLeftSwept_11 4 rfl ?_
    refine T_icmp_ge (pc := 13) C 53 dX8_seatsLeftSwept_13 rfl h7 h4 (fun c18 => ?_) (fun c18 => ?_)
    · refine T_sub (L' := [(0, .ref (ad r0)), (1, vi x1), (6, vi x6)]) [0, 1, 6] rfl ?_
      exact T_exit (fun h9 => h9 h6)
    · refine T_iload (pc := 16) C dX8_seatsLeftSwept_16 5 rfl ?_
      refine T_aload_n (pc := 18) C dX8_seatsLeftSwept_18 rfl 0 rfl ?_
      refine Tc_getr (pc := 19) C r0 8 9 10 k0 (by decide) (fun _ => rfl) rfl inX8 (by decide) (v := .ref (ad (r0 + 5))) rfl kc_270 dX8_seatsLeftSwept_19 ?_
      refine T_iload_n (pc := 22) C dX8_seatsLeftSwept_22 rfl 1 rfl ?_
      refine T_iload_n (pc := 23) C dX8_seatsLeftSwept_23 rfl 2 rfl ?_
      refine T_iload (pc := 24) C dX8_seatsLeftSwept_24 7 rfl ?_
      refine T_czVip (pc := 26) zk.1 hZ C [vi x1, vi x2, vi x7] [vi x5] (fun o h9 hw => ct_X11_changeAt zk N σ (r0 + 5) x1 x2 x7 (kd_8 k0).2.2.2.2.1 h1 h2 h7 hw o h9) kc_375 cm_X11_changeAt (rcc (kd_8 k0).2.2.2.2.1 (by decide) (fun _ => rfl) rfl) rfl rfl (Nat.le_of_ble_eq_true rfl) (by decide) (a' := 0) (b' := 0) ⟨rfl, rfl⟩ dX8_seatsLeftSwept_26 (fun v19 hv19 => ?_)
      refine T_iadd (pc := 29) C dX8_seatsLeftSwept_29 ?_
      refine T_blN (fun v20 => ?_)
      refine T_istore (pc := 30) (L' := [(5, vi v20), (0, .ref (ad r0)), (1, vi x1), (2, vi x2), (3, vi x3), (4, vi x4), (6, vi x6), (7, vi x7)]) C dX8_seatsLeftSwept_30 (Nat.le_of_ble_eq_true rfl) rfl ?_
      refine T_iload (pc := 32) C dX8_seatsLeftSwept_32 7 rfl ?_
      refine T_iload_n (pc := 34) C dX8_seatsLeftSwept_34 rfl 4 rfl ?_
      refine T_icmp_lt (pc := 35) C 47 dX8_seatsLeftSwept_35 rfl h7 h3 (fun c21 => ?_) (fun c21 => ?_)
      · refine T_iinc (pc := 47) (L' := [(7, vi (x7 + 1)), (5, vi v20), (0, .ref (ad r0)), (1, vi x1), (2, vi x2), (3, vi x3), (4, vi x4), (6, vi x6)]) C dX8_seatsLeftSwept_47 (Nat.le_of_ble_eq_true rfl) 7 rfl rfl ?_
        refine T_goto (pc := 50) C 9 dX8_seatsLeftSwept_50 rfl ?_
        refine T_sub (L' := [(0, .ref (ad r0)), (1, vi x1), (2, vi x2), (3, vi x3), (4, vi x4), (5, vi v20), (6, vi x6), (7, vi (x7 + 1))]) [2, 3, 4, 5, 6, 1, 7, 0] rfl ?_
        refine T_guard (fun g22 => ?_)
        exact ih v20 x6 (x7 + 1) g22 h6 (rng_inc' c21 h7 h3)
      · refine T_iload (pc := 38) C dX8_seatsLeftSwept_38 6 rfl ?_
        refine T_iload (pc := 40) C dX8_seatsLeftSwept_40 0 rfl ?_
        refine T_guard (fun g23 => ?_)
        refine T_czSip (pc := 42) zk.1 hZ C [vi x6, vi v20] [] (fun o h9 hw => ct_J9_max_7cf53 zk σ x6 v20 h6 g23 hw o h9) kc_355 cm_J9_max_7cf53 rfl rfl (Nat.le_of_ble_eq_true rfl) (by decide) (a' := 0) (b' := 0) ⟨rfl, rfl⟩ dX8_seatsLeftSwept_42 (fun v24 hv24 => ?_)
        refine T_istore (pc := 45) (L' := [(6, vi v24), (5, vi v20), (0, .ref (ad r0)), (1, vi x1), (2, vi x2), (3, vi x3), (4, vi x4), (7, vi x7)]) C dX8_seatsLeftSwept_45 (Nat.le_of_ble_eq_true rfl) rfl ?_
        refine T_iinc (pc := 47) (L' := [(7, vi (x7 + 1)), (6, vi v24), (5, vi v20), (0, .ref (ad r0)), (1, vi x1), (2, vi x2), (3, vi x3), (4, vi x4)]) C dX8_seatsLeftSwept_47 (Nat.le_of_ble_eq_true rfl) 7 rfl rfl ?_
        refine T_goto (pc := 50) C 9 dX8_seatsLeftSwept_50 rfl ?_
        refine T_sub (L' := [(0, .ref (ad r0)), (1, vi x1), (2, vi x2), (3, vi x3), (4, vi x4), (5, vi v20), (6, vi v24), (7, vi (x7 + 1))]) [3, 4, 5, 6, 7, 2, 1, 0] rfl ?_
        exact ih v20 v24 (x7 + 1) g23 hv24.1 (rng_inc c18 h7 h4)
def f_X8_seatsLeftSwept (N : Nat) (σ : Sm) (r0 : Nat) (x1 : Int) (x2 : Int) (x3 : Int) (x4 : Int) : Option Int :=
  (f_X8_seatsLeftSwept_9 N σ r0 x1 x2 x3 x4 N 0 0 0).bind fun q25 => if 0 ≤ x1 ∧ x1 < 5 then if rng ((σ (r0 + 23 + 2 * x1.toNat) 4) - q25) then some ((σ (r0 + 23 + 2 * x1.toNat) 4) - q25) else none else none
theorem ct_X8_seatsLeftSwept {l : Launch} {cy : Nat → ClassId} {ad : Nat → Nat} {E : Nat → Nat → Nat} {G : va_G} {Z : vZ} (zk : Zk Z E) (N : Nat) (σ : Sm) (r0 : Nat) (x1 : Int) (x2 : Int) (x3 : Int) (x4 : Int) (k0 : kd r0 = 8) (h1 : rng x1) (h2 : rng x2) (h3 : rng x3) (h4 : rng x4) (hw : wfc σ) (o : Int) (h : f_X8_seatsLeftSwept N σ r0 x1 x2 x3 x4 = some o) : CzI Z l yX8_seatsLeftSwept cX8_seatsLeftSwept 8 (some .int) rm_X8_seatsLeftSwept (wlc cy ad E) wfc G (tyc cy) [.ref (ad r0), vi x1, vi x2, vi x3, vi x4] σ σ o := by
  refine czI_of zk.1 (plainFor_of_name (by decide)) (Nat.le_of_ble_eq_true rfl) hw (σ, o) o h (fun X Y v => EndI X Y cX8_seatsLeftSwept rm_X8_seatsLeftSwept .int (σ, v)) (fun _ _ h => h) (fun X A Q hZ hX C => ?_)
  replace C : Cx X (Yc cy ad E G A 8 Q) cX8_seatsLeftSwept RX8 (some .int) rm_X8_seatsLeftSwept (tyc cy) := C
  replace hZ : Zx Z X (Yc cy ad E G A 8 Q) := hZ
  show T X (Yc cy ad E G A 8 Q) (fun v => EndI X (Yc cy ad E G A 8 Q) cX8_seatsLeftSwept rm_X8_seatsLeftSwept .int (σ, v)) 0 0 0 [(0, .ref (ad r0)), (1, vi x1), (2, vi x2), (3, vi x3), (4, vi x4)] [] σ (f_X8_seatsLeftSwept N σ r0 x1 x2 x3 x4)
  unfold f_X8_seatsLeftSwept
  refine T_iconst (pc := 0) C dX8_seatsLeftSwept_0 ?_
  refine T_istore (pc := 1) (L' := [(5, vi 0), (0, .ref (ad r0)), (1, vi x1), (2, vi x2), (3, vi x3), (4, vi x4)]) C dX8_seatsLeftSwept_1 (Nat.le_of_ble_eq_true rfl) rfl ?_
  refine T_iconst (pc := 3) C dX8_seatsLeftSwept_3 ?_
  refine T_istore (pc := 4) (L' := [(6, vi 0), (5, vi 0), (0, .ref (ad r0)), (1, vi x1), (2, vi x2), (3, vi x3), (4, vi x4)]) C dX8_seatsLeftSwept_4 (Nat.le_of_ble_eq_true rfl) rfl ?_
  refine T_iconst (pc := 6) C dX8_seatsLeftSwept_6 ?_
  refine T_istore (pc := 7) (L' := [(7, vi 0), (6, vi 0), (5, vi 0), (0, .ref (ad r0)), (1, vi x1), (2, vi x2), (3, vi x3), (4, vi x4)]) C dX8_seatsLeftSwept_7 (Nat.le_of_ble_eq_true rfl) rfl ?_
  refine T_sub (L' := [(0, .ref (ad r0)), (1, vi x1), (2, vi x2), (3, vi x3), (4, vi x4), (5, vi 0), (6, vi 0), (7, vi 0)]) [3, 4, 5, 6, 7, 2, 1, 0] rfl ?_
  refine T_loopE (lp_X8_seatsLeftSwept_9 zk hZ C N σ r0 k0 x1 x2 x3 x4 h1 h2 h3 h4 N 0 0 0 (rngL rfl) (rngL rfl) (rngL rfl)) (fun q25 hq25 => ?_)
  refine T_aload_n (pc := 53) C dX8_seatsLeftSwept_53 rfl 0 rfl ?_
  refine Tc_getr (pc := 54) C r0 8 8 10 k0 (by decide) (fun _ => rfl) rfl inX8 (by decide) (v := .ref (ad (r0 + 4))) rfl kc_268 dX8_seatsLeftSwept_54 ?_
  refine T_iload_n (pc := 57) C dX8_seatsLeftSwept_57 rfl 1 rfl ?_
  refine T_guard (fun g26 => ?_)
  refine Tc_ald27 (pc := 58) C r0 k0 g26 dX8_seatsLeftSwept_58 (fun y27 => ?_)
  refine Tc_geti (pc := 59) C (r0 + 23 + 2 * x1.toNat) 7 4 8 y27 (by decide) (fun _ => rfl) rfl inX7 (by decide) rfl kc_356 dX8_seatsLeftSwept_59 (fun z28 => ?_)
  refine T_iload (pc := 62) C dX8_seatsLeftSwept_62 2 rfl ?_
  refine T_isub (pc := 64) C dX8_seatsLeftSwept_64 ?_
  refine T_guard (fun g29 => ?_)
  exact T_iret (pc := 65) ((σ (r0 + 23 + 2 * x1.toNat) 4) - q25) (fun h9 => h9) g29 (nar_I _) (by decide) dX8_seatsLeftSwept_65

abbrev rm_X8_waitFault : Room := ⟨0, 0, 0, 0⟩
theorem cm_X8_waitFault : cmV yX8_waitFault cX8_waitFault 2 (some (.object "RingTransit$Fault")) 1 := ⟨kc_61, kc_147, ⟨by decide +kernel, by decide +kernel, by decide +kernel⟩, kc_378, kc_379⟩
def f_X8_waitFault (r0 : Nat) (x1 : Int) : Option Int :=
  (if x1 < 1 then some 2 else (if 120 < x1 then some 2 else some 0))
theorem ct_X8_waitFault {l : Launch} {cy : Nat → ClassId} {ad : Nat → Nat} {E : Nat → Nat → Nat} {G : va_G} {Z : vZ} (zk : Zk Z E) (σ : Sm) (r0 : Nat) (x1 : Int) (k0 : kd r0 = 8) (h1 : rng x1) (hw : wfc σ) (o : Int) (h : f_X8_waitFault r0 x1 = some o) : CzE Z E 0 6 l yX8_waitFault cX8_waitFault 2 (some (.object "RingTransit$Fault")) rm_X8_waitFault (wlc cy ad E) wfc G (tyc cy) [.ref (ad r0), vi x1] σ σ o := by
  refine czE_of zk.1 (plainFor_of_name (by decide)) (Nat.le_of_ble_eq_true rfl) hw (σ, o) o h (fun X Y v => EndE E 0 6 X Y cX8_waitFault rm_X8_waitFault (σ, v)) (fun _ _ h => h) (fun X A Q hZ hX C => ?_)
  replace C : Cx X (Yc cy ad E G A 2 Q) cX8_waitFault RX8 (some (.object "RingTransit$Fault")) rm_X8_waitFault (tyc cy) := C
  replace hZ : Zx Z X (Yc cy ad E G A 2 Q) := hZ
  show T X (Yc cy ad E G A 2 Q) (fun v => EndE E 0 6 X (Yc cy ad E G A 2 Q) cX8_waitFault rm_X8_waitFault (σ, v)) 0 0 0 [(0, .ref (ad r0)), (1, vi x1)] [] σ (f_X8_waitFault r0 x1)
  unfold f_X8_waitFault
  refine T_iload_n (pc := 0) C dX8_waitFault_0 rfl 1 rfl ?_
  refine T_iconst (pc := 1) C dX8_waitFault_1 ?_
  refine T_icmp_lt (pc := 2) C 17 dX8_waitFault_2 rfl h1 (rngL rfl) (fun c1 => ?_) (fun c1 => ?_)
  · refine T_gets zk.2 hZ (pc := 17) C 2 2 rfl (by decide) kc_311 dX8_waitFault_17 ?_
    exact T_eret (pc := 20) 2 (fun h9 => h9) (by decide) (by decide) dX8_waitFault_20
  · refine T_iload_n (pc := 5) C dX8_waitFault_5 rfl 1 rfl ?_
    refine T_bipush (pc := 6) C dX8_waitFault_6 (by decide) ?_
    refine T_icmp_gt (pc := 8) C 17 dX8_waitFault_8 rfl h1 (rngL rfl) (fun c2 => ?_) (fun c2 => ?_)
    · refine T_gets zk.2 hZ (pc := 17) C 2 2 rfl (by decide) kc_311 dX8_waitFault_17 ?_
      exact T_eret (pc := 20) 2 (fun h9 => h9) (by decide) (by decide) dX8_waitFault_20
    · refine T_gets zk.2 hZ (pc := 11) C 0 0 rfl (by decide) kc_301 dX8_waitFault_11 ?_
      refine T_goto (pc := 14) C 20 dX8_waitFault_14 rfl ?_
      exact T_eret (pc := 20) 0 (fun h9 => h9) (by decide) (by decide) dX8_waitFault_20

abbrev rm_X11_drop : Room := ⟨0, 0, 0, 0⟩
theorem cm_X11_drop : cmV yX11_drop cX11_drop 4 none 1 := ⟨kc_84, kc_251, ⟨by decide +kernel, by decide +kernel, by decide +kernel⟩, kc_380, kc_381⟩
def f_X11_drop_19 (r0 : Nat) (r2 : Nat) : Nat → Sm → Int → Option (Sm)
  | 0, _, _ => none
  | n + 1, s0, x3 => (if (s0 r0 1) ≤ x3 then some s0 else if 0 ≤ (x3 + 1) ∧ (x3 + 1) < 16 then if 0 ≤ x3 ∧ x3 < 16 then bl (upm s0 (r0 + 1) x3.toNat ((s0 (r0 + 1) (x3 + 1).toNat).toNat : Nat)) fun s11 => f_X11_drop_19 r0 r2 n s11 (x3 + 1) else none else none)
theorem lp_X11_drop_19 {X : vjX} {A : Nat → Prop} {Q : State → Prop} {cy : Nat → ClassId} {ad : Nat → Nat} {E : Nat → Nat → Nat} {G : va_G} {Z : vZ} (zk : Zk Z E) (hZ : Zx Z X (Yc cy ad E G A 4 Q)) (C : Cx X (Yc cy ad E G A 4 Q) cX11_drop RX11 none rm_X11_drop (tyc cy)) (r0 : Nat) (r2 : Nat) (k0 : kd r0 = 11) (k2 : kd r2 = 10) : ∀ (n : Nat) (s0 : Sm) (x3 : Int) (h3 : rng x3), T X (Yc cy ad E G A 4 Q) (fun (q : Sm) => True → J X (Yc cy ad E G A 4 Q) 0 0 47 [(0, .ref (ad r0)), (2, .ref (ad r2))] [] q) 0 0 19 [(0, .ref (ad r0)), (2, .ref (ad r2)), (3, vi x3)] [] s0 (f_X11_drop_19 r0 r2 n s0 x3) := by
  intro n
  induction n with
  | zero => intro s0 x3 h3; exact T_none
  | succ n ih =>
    intro s0 x3 h3
    rw [f_X11_drop_19]
    refine T_iload_n (pc := 19) C dX11_drop_19 rfl 2 rfl ?_
    refine T_aload_n (pc := 20) C dX11_drop_20 rfl 0 rfl ?_
    refine Tc_geti (pc := 21) C r0 11 1 6 k0 (by decide) (fun _ => rfl) rfl inX11 (by decide) rfl kc_244 dX11_drop_21 (fun z6 => ?_)
    refine T_icmp_ge (pc := 24) C 47 dX11_drop_24 rfl h3 z6 (fun c7 => ?_) (fun c7 => ?_)
    · refine T_sub (L' := [(0, .ref (ad r0)), (2, .ref (ad r2))]) [0, 1] rfl ?_
      exact T_exit (fun h9 => h9 trivial)
    · refine T_aload_n (pc := 27) C dX11_drop_27 rfl 0 rfl ?_
      refine Tc_getr (pc := 28) C r0 11 0 6 k0 (by decide) (fun _ => rfl) rfl inX11 (by decide) (v := .ref (ad (r0 + 1))) rfl kc_249 dX11_drop_28 ?_
      refine T_iload_n (pc := 31) C dX11_drop_31 rfl 2 rfl ?_
      refine T_aload_n (pc := 32) C dX11_drop_32 rfl 0 rfl ?_
      refine Tc_getr (pc := 33) C r0 11 0 6 k0 (by decide) (fun _ => rfl) rfl inX11 (by decide) (v := .ref (ad (r0 + 1))) rfl kc_249 dX11_drop_33 ?_
      refine T_iload_n (pc := 36) C dX11_drop_36 rfl 2 rfl ?_
      refine T_iconst (pc := 37) C dX11_drop_37 ?_
      refine T_iadd (pc := 38) C dX11_drop_38 ?_
      refine T_guard (fun g8 => ?_)
      refine Tc_ald28 (pc := 39) C (r0 + 1) (x3 + 1).toNat (kd_11 k0) g8 rfl dX11_drop_39 (fun y9 => ?_)
      refine T_guard (fun g10 => ?_)
      refine Tc_ast28 (pc := 40) C (r0 + 1) x3.toNat ((s0 (r0 + 1) (x3 + 1).toNat).toNat) (kd_11 k0) y9.2 g10 rfl dX11_drop_40 ?_
      refine T_blS (fun s11 => ?_)
      refine T_iinc (pc := 41) (L' := [(3, vi (x3 + 1)), (0, .ref (ad r0)), (2, .ref (ad r2))]) C dX11_drop_41 (Nat.le_of_ble_eq_true rfl) 2 rfl rfl ?_
      refine T_goto (pc := 44) C 19 dX11_drop_44 rfl ?_
      refine T_sub (L' := [(0, .ref (ad r0)), (2, .ref (ad r2)), (3, vi (x3 + 1))]) [1, 2, 0] rfl ?_
      exact ih s11 (x3 + 1) (rng_inc c7 h3 z6)
def f_X11_drop (N : Nat) (σ : Sm) (r0 : Nat) (x1 : Int) : Option Sm :=
  if 0 ≤ x1 ∧ x1 < 16 then if rng ((σ r0 1) - 1) then bl (upm σ r0 1 ((σ r0 1) - 1)) fun s5 => (f_X11_drop_19 r0 (σ (r0 + 1) x1.toNat).toNat N s5 x1).bind fun q12 => if 0 ≤ (q12 r0 1) ∧ (q12 r0 1) < 16 then bl (upm q12 (r0 + 1) (q12 r0 1).toNat ((σ (r0 + 1) x1.toNat).toNat : Nat)) fun s15 => some s15 else none else none else none
theorem ct_X11_drop {l : Launch} {cy : Nat → ClassId} {ad : Nat → Nat} {E : Nat → Nat → Nat} {G : va_G} {Z : vZ} (zk : Zk Z E) (N : Nat) (σ : Sm) (r0 : Nat) (x1 : Int) (k0 : kd r0 = 11) (h1 : rng x1) (hw : wfc σ) (o : Sm) (h : f_X11_drop N σ r0 x1 = some o) : CzV Z l yX11_drop cX11_drop 4 rm_X11_drop (wlc cy ad E) wfc G (tyc cy) [.ref (ad r0), vi x1] σ o := by
  refine czV_of zk.1 (plainFor_of_name (by decide)) (Nat.le_of_ble_eq_true rfl) hw o o h (fun X Y w => EndV X Y cX11_drop rm_X11_drop w) (fun _ _ h => h) (fun X A Q hZ hX C => ?_)
  replace C : Cx X (Yc cy ad E G A 4 Q) cX11_drop RX11 none rm_X11_drop (tyc cy) := C
  replace hZ : Zx Z X (Yc cy ad E G A 4 Q) := hZ
  show T X (Yc cy ad E G A 4 Q) (fun w => EndV X (Yc cy ad E G A 4 Q) cX11_drop rm_X11_drop w) 0 0 0 [(0, .ref (ad r0)), (1, vi x1)] [] σ (f_X11_drop N σ r0 x1)
  unfold f_X11_drop
  refine T_aload_n (pc := 0) C dX11_drop_0 rfl 0 rfl ?_
  refine Tc_getr (pc := 1) C r0 11 0 6 k0 (by decide) (fun _ => rfl) rfl inX11 (by decide) (v := .ref (ad (r0 + 1))) rfl kc_249 dX11_drop_1 ?_
  refine T_iload_n (pc := 4) C dX11_drop_4 rfl 1 rfl ?_
  refine T_guard (fun g1 => ?_)
  refine Tc_ald28 (pc := 5) C (r0 + 1) x1.toNat (kd_11 k0) g1 rfl dX11_drop_5 (fun y2 => ?_)
  refine T_astore_n (pc := 6) (L' := [(2, .ref (ad (σ (r0 + 1) x1.toNat).toNat)), (0, .ref (ad r0)), (1, vi x1)]) C dX11_drop_6 rfl (Nat.le_of_ble_eq_true rfl) rfl ?_
  refine T_aload_n (pc := 7) C dX11_drop_7 rfl 1 rfl ?_
  refine T_dup (pc := 8) C dX11_drop_8 rfl ?_
  refine Tc_geti (pc := 9) C r0 11 1 6 k0 (by decide) (fun _ => rfl) rfl inX11 (by decide) rfl kc_244 dX11_drop_9 (fun z3 => ?_)
  refine T_iconst (pc := 12) C dX11_drop_12 ?_
  refine T_isub (pc := 13) C dX11_drop_13 ?_
  refine T_guard (fun g4 => ?_)
  refine Tc_put (pc := 14) C (ty := .int) r0 11 1 6 k0 (by decide) (fun _ => rfl) rfl inX11 (by decide) (fun _ => rfl) g4 tyX11 tyX11_ok nmX11 rfl (Nat.le_of_ble_eq_true rfl) kc_244 rfl (nar_I _) (fit_I _) dX11_drop_14 ?_
  refine T_blS (fun s5 => ?_)
  refine T_iload_n (pc := 17) C dX11_drop_17 rfl 2 rfl ?_
  refine T_istore_n (pc := 18) (L' := [(3, vi x1), (2, .ref (ad (σ (r0 + 1) x1.toNat).toNat)), (0, .ref (ad r0)), (1, vi x1)]) C dX11_drop_18 rfl (Nat.le_of_ble_eq_true rfl) rfl ?_
  refine T_sub (L' := [(0, .ref (ad r0)), (2, .ref (ad (σ (r0 + 1) x1.toNat).toNat)), (3, vi x1)]) [2, 1, 0] rfl ?_
  refine T_loopE (lp_X11_drop_19 zk hZ C r0 (σ (r0 + 1) x1.toNat).toNat k0 y2.2 N s5 x1 h1) (fun q12 hq12 => ?_)
  refine T_aload_n (pc := 47) C dX11_drop_47 rfl 0 rfl ?_
  refine Tc_getr (pc := 48) C r0 11 0 6 k0 (by decide) (fun _ => rfl) rfl inX11 (by decide) (v := .ref (ad (r0 + 1))) rfl kc_249 dX11_drop_48 ?_
  refine T_aload_n (pc := 51) C dX11_drop_51 rfl 0 rfl ?_
  refine Tc_geti (pc := 52) C r0 11 1 6 k0 (by decide) (fun _ => rfl) rfl inX11 (by decide) rfl kc_244 dX11_drop_52 (fun z13 => ?_)
  refine T_aload_n (pc := 55) C dX11_drop_55 rfl 1 rfl ?_
  refine T_guard (fun g14 => ?_)
  refine Tc_ast28 (pc := 56) C (r0 + 1) (q12 r0 1).toNat ((σ (r0 + 1) x1.toNat).toNat) (kd_11 k0) y2.2 g14 rfl dX11_drop_56 ?_
  refine T_blS (fun s15 => ?_)
  exact T_vret (pc := 57) s15 (fun h9 => h9) (by decide) dX11_drop_57

abbrev rm_X8_pass : Room := ⟨2, 0, 0, 44⟩
theorem cm_X8_pass : cmV yX8_pass cX8_pass 5 (some .int) 1 := ⟨kc_62, kc_147, ⟨by decide +kernel, by decide +kernel, by decide +kernel⟩, kc_389, kc_390⟩
def f_X8_pass_22 (N : Nat) (r0 : Nat) : Nat → Sm → Int → Int → Option (Sm × Int)
  | 0, _, _, _ => none
  | n + 1, s0, x2, x3 => (if x3 < 0 then some (s0, x2) else if 0 ≤ x3 ∧ x3 < 16 then if 0 ≤ (s0 (s0 (r0 + 6) x3.toNat).toNat 1) ∧ (s0 (s0 (r0 + 6) x3.toNat).toNat 1) < 5 then (f_X7_whenAt s0 (r0 + 23 + 2 * (s0 (s0 (r0 + 6) x3.toNat).toNat 1).toNat) (s0 (s0 (r0 + 6) x3.toNat).toNat 2) (s0 (s0 (r0 + 6) x3.toNat).toNat 4) (s0 r0 1)).bind fun v30 => (if (s0 r0 0) < v30 then if rng (x3 + (-1)) then f_X8_pass_22 N r0 n s0 x2 (x3 + (-1)) else none else (f_X11_drop N s0 (r0 + 5) x3).bind fun s34 => if rng (x2 + 1) then if rng (x3 + (-1)) then f_X8_pass_22 N r0 n s34 (x2 + 1) (x3 + (-1)) else none else none) else none else none)
theorem lp_X8_pass_22 {X : vjX} {A : Nat → Prop} {Q : State → Prop} {cy : Nat → ClassId} {ad : Nat → Nat} {E : Nat → Nat → Nat} {G : va_G} {Z : vZ} (zk : Zk Z E) (hZ : Zx Z X (Yc cy ad E G A 5 Q)) (C : Cx X (Yc cy ad E G A 5 Q) cX8_pass RX8 (some .int) rm_X8_pass (tyc cy)) (N : Nat) (r0 : Nat) (k0 : kd r0 = 8) : ∀ (n : Nat) (s0 : Sm) (x2 : Int) (x3 : Int) (h2 : rng x2) (h3 : rng x3), T X (Yc cy ad E G A 5 Q) (fun (q : Sm × Int) => rng q.2 → J X (Yc cy ad E G A 5 Q) 0 0 88 [(0, .ref (ad r0)), (2, vi q.2)] [] q.1) 0 0 22 [(0, .ref (ad r0)), (2, vi x2), (3, vi x3)] [] s0 (f_X8_pass_22 N r0 n s0 x2 x3) := by
  intro n
  induction n with
  | zero => intro s0 x2 x3 h2 h3; exact T_none
  | succ n ih =>
    intro s0 x2 x3 h2 h3
    rw [f_X8_pass_22]
    refine T_iload_n (pc := 22) C dX8_pass_22 rfl 2 rfl ?_
    refine T_if_lt (pc := 23) C 88 dX8_pass_23 rfl h3 (fun c21 => ?_) (fun c21 => ?_)
    · refine T_sub (L' := [(0, .ref (ad r0)), (2, vi x2)]) [0, 1] rfl ?_
      exact T_exit (fun h9 => h9 h2)
    · refine T_aload_n (pc := 26) C dX8_pass_26 rfl 0 rfl ?_
      refine Tc_getr (pc := 27) C r0 8 9 10 k0 (by decide) (fun _ => rfl) rfl inX8 (by decide) (v := .ref (ad (r0 + 5))) rfl kc_270 dX8_pass_27 ?_
      refine Tc_getr (pc := 30) C (r0 + 5) 11 0 6 (kd_8 k0).2.2.2.2.1 (by decide) (fun _ => rfl) rfl inX11 (by decide) (v := .ref (ad (r0 + 6))) rfl kc_382 dX8_pass_30 ?_
      refine T_iload_n (pc := 33) C dX8_pass_33 rfl 2 rfl ?_
      refine T_guard (fun g22 => ?_)
      refine Tc_ald28 (pc := 34) C (r0 + 6) x3.toNat (kd_11 (kd_8 k0).2.2.2.2.1) g22 rfl dX8_pass_34 (fun y23 => ?_)
      refine T_astore (pc := 35) (L' := [(4, .ref (ad (s0 (r0 + 6) x3.toNat).toNat)), (0, .ref (ad r0)), (2, vi x2), (3, vi x3)]) C dX8_pass_35 (Nat.le_of_ble_eq_true rfl) rfl ?_
      refine T_aload_n (pc := 37) C dX8_pass_37 rfl 1 rfl ?_
      refine Tc_getr (pc := 38) C r0 8 8 10 k0 (by decide) (fun _ => rfl) rfl inX8 (by decide) (v := .ref (ad (r0 + 4))) rfl kc_268 dX8_pass_38 ?_
      refine T_aload (pc := 41) C dX8_pass_41 0 rfl ?_
      refine Tc_geti (pc := 43) C (s0 (r0 + 6) x3.toNat).toNat 10 1 6 y23.2 (by decide) (fun _ => rfl) rfl inX10 (by decide) rfl kc_383 dX8_pass_43 (fun z24 => ?_)
      refine T_guard (fun g25 => ?_)
      refine Tc_ald27 (pc := 46) C r0 k0 g25 dX8_pass_46 (fun y26 => ?_)
      refine T_aload (pc := 47) C dX8_pass_47 0 rfl ?_
      refine Tc_geti (pc := 49) C (s0 (r0 + 6) x3.toNat).toNat 10 2 6 y23.2 (by decide) (fun _ => rfl) rfl inX10 (by decide) rfl kc_384 dX8_pass_49 (fun z27 => ?_)
      refine T_aload (pc := 52) C dX8_pass_52 0 rfl ?_
      refine Tc_geti (pc := 54) C (s0 (r0 + 6) x3.toNat).toNat 10 4 6 y23.2 (by decide) (fun _ => rfl) rfl inX10 (by decide) rfl kc_385 dX8_pass_54 (fun z28 => ?_)
      refine T_aload_n (pc := 57) C dX8_pass_57 rfl 1 rfl ?_
      refine Tc_geti (pc := 58) C r0 8 1 10 k0 (by decide) (fun _ => rfl) rfl inX8 (by decide) rfl kc_262 dX8_pass_58 (fun z29 => ?_)
      refine T_czVip (pc := 61) zk.1 hZ C [vi (s0 (s0 (r0 + 6) x3.toNat).toNat 2), vi (s0 (s0 (r0 + 6) x3.toNat).toNat 4), vi (s0 r0 1)] [] (fun o h9 hw => ct_X7_whenAt zk s0 (r0 + 23 + 2 * (s0 (s0 (r0 + 6) x3.toNat).toNat 1).toNat) (s0 (s0 (r0 + 6) x3.toNat).toNat 2) (s0 (s0 (r0 + 6) x3.toNat).toNat 4) (s0 r0 1) y26 z27 z28 (z29.2 rfl) hw o h9) kc_386 cm_X7_whenAt (rcc y26 (by decide) (fun _ => rfl) rfl) rfl rfl (Nat.le_of_ble_eq_true rfl) (by decide) (a' := 0) (b' := 0) ⟨rfl, rfl⟩ dX8_pass_61 (fun v30 hv30 => ?_)
      refine T_aload_n (pc := 64) C dX8_pass_64 rfl 1 rfl ?_
      refine Tc_geti (pc := 65) C r0 8 0 10 k0 (by decide) (fun _ => rfl) rfl inX8 (by decide) rfl kc_261 dX8_pass_65 (fun z31 => ?_)
      refine T_icmp_gt (pc := 68) C 82 dX8_pass_68 rfl hv30.1 z31.1 (fun c32 => ?_) (fun c32 => ?_)
      · refine T_iinc (pc := 82) (L' := [(3, vi (x3 + (-1))), (4, .ref (ad (s0 (r0 + 6) x3.toNat).toNat)), (0, .ref (ad r0)), (2, vi x2)]) C dX8_pass_82 (Nat.le_of_ble_eq_true rfl) 3 rfl rfl ?_
        refine T_goto (pc := 85) C 22 dX8_pass_85 rfl ?_
        refine T_sub (L' := [(0, .ref (ad r0)), (2, vi x2), (3, vi (x3 + (-1)))]) [2, 3, 0] rfl ?_
        refine T_guard (fun g33 => ?_)
        exact ih s0 x2 (x3 + (-1)) h2 g33
      · refine T_aload_n (pc := 71) C dX8_pass_71 rfl 1 rfl ?_
        refine Tc_getr (pc := 72) C r0 8 9 10 k0 (by decide) (fun _ => rfl) rfl inX8 (by decide) (v := .ref (ad (r0 + 5))) rfl kc_270 dX8_pass_72 ?_
        refine T_iload_n (pc := 75) C dX8_pass_75 rfl 3 rfl ?_
        refine T_czVv (pc := 76) zk.1 hZ C [vi x3] [] (fun o h9 hw => ct_X11_drop zk N s0 (r0 + 5) x3 (kd_8 k0).2.2.2.2.1 h3 hw o h9) kc_387 cm_X11_drop (rcc (kd_8 k0).2.2.2.2.1 (by decide) (fun _ => rfl) rfl) rfl rfl (Nat.le_of_ble_eq_true rfl) (by decide) (a' := 0) (b' := 0) ⟨rfl, rfl⟩ dX8_pass_76 (fun s34 => ?_)
        refine T_iinc (pc := 79) (L' := [(2, vi (x2 + 1)), (4, .ref (ad (s0 (r0 + 6) x3.toNat).toNat)), (0, .ref (ad r0)), (3, vi x3)]) C dX8_pass_79 (Nat.le_of_ble_eq_true rfl) 2 rfl rfl ?_
        refine T_iinc (pc := 82) (L' := [(3, vi (x3 + (-1))), (2, vi (x2 + 1)), (4, .ref (ad (s0 (r0 + 6) x3.toNat).toNat)), (0, .ref (ad r0))]) C dX8_pass_82 (Nat.le_of_ble_eq_true rfl) 3 rfl rfl ?_
        refine T_goto (pc := 85) C 22 dX8_pass_85 rfl ?_
        refine T_sub (L' := [(0, .ref (ad r0)), (2, vi (x2 + 1)), (3, vi (x3 + (-1)))]) [3, 1, 0] rfl ?_
        refine T_guard (fun g35 => ?_)
        refine T_guard (fun g36 => ?_)
        exact ih s34 (x2 + 1) (x3 + (-1)) g35 g36
def f_X8_pass (N : Nat) (σ : Sm) (r0 : Nat) (x1 : Int) : Option (Sm × Int) :=
  if rng ((σ r0 0) + x1) then bl (upm σ r0 0 ((σ r0 0) + x1)) fun s3 => bl ((s3 (r0 + 5) 1) - 1) fun v5 => if rng v5 then (f_X8_pass_22 N r0 N s3 0 v5).bind fun q38 => if rng ((q38.1 (r0 + 5) 5) + q38.2) then bl (upm q38.1 (r0 + 5) 5 ((q38.1 (r0 + 5) 5) + q38.2)) fun s41 => some (s41, q38.2) else none else none else none
theorem ct_X8_pass {l : Launch} {cy : Nat → ClassId} {ad : Nat → Nat} {E : Nat → Nat → Nat} {G : va_G} {Z : vZ} (zk : Zk Z E) (N : Nat) (σ : Sm) (r0 : Nat) (x1 : Int) (k0 : kd r0 = 8) (h1 : rng x1) (hw : wfc σ) (o : Sm × Int) (h : f_X8_pass N σ r0 x1 = some o) : CzI Z l yX8_pass cX8_pass 5 (some .int) rm_X8_pass (wlc cy ad E) wfc G (tyc cy) [.ref (ad r0), vi x1] σ o.1 o.2 := by
  refine czI_of zk.1 (plainFor_of_name (by decide)) (Nat.le_of_ble_eq_true rfl) hw o o h (fun X Y w => EndI X Y cX8_pass rm_X8_pass .int w) (fun _ _ h => h) (fun X A Q hZ hX C => ?_)
  replace C : Cx X (Yc cy ad E G A 5 Q) cX8_pass RX8 (some .int) rm_X8_pass (tyc cy) := C
  replace hZ : Zx Z X (Yc cy ad E G A 5 Q) := hZ
  show T X (Yc cy ad E G A 5 Q) (fun w => EndI X (Yc cy ad E G A 5 Q) cX8_pass rm_X8_pass .int w) 0 0 0 [(0, .ref (ad r0)), (1, vi x1)] [] σ (f_X8_pass N σ r0 x1)
  unfold f_X8_pass
  refine T_aload_n (pc := 0) C dX8_pass_0 rfl 0 rfl ?_
  refine T_dup (pc := 1) C dX8_pass_1 rfl ?_
  refine Tc_geti (pc := 2) C r0 8 0 10 k0 (by decide) (fun _ => rfl) rfl inX8 (by decide) rfl kc_261 dX8_pass_2 (fun z1 => ?_)
  refine T_iload_n (pc := 5) C dX8_pass_5 rfl 1 rfl ?_
  refine T_iadd (pc := 6) C dX8_pass_6 ?_
  refine T_guard (fun g2 => ?_)
  refine Tc_put (pc := 7) C (ty := .int) r0 8 0 10 k0 (by decide) (fun _ => rfl) rfl inX8 (by decide) (fun _ => rfl) ⟨g2, fun e9 => absurd e9 (by decide)⟩ tyX8 tyX8_ok nmX8 rfl (Nat.le_of_ble_eq_true rfl) kc_261 rfl (nar_I _) (fit_I _) dX8_pass_7 ?_
  refine T_blS (fun s3 => ?_)
  refine T_iconst (pc := 10) C dX8_pass_10 ?_
  refine T_istore_n (pc := 11) (L' := [(2, vi 0), (0, .ref (ad r0)), (1, vi x1)]) C dX8_pass_11 rfl (Nat.le_of_ble_eq_true rfl) rfl ?_
  refine T_aload_n (pc := 12) C dX8_pass_12 rfl 1 rfl ?_
  refine Tc_getr (pc := 13) C r0 8 9 10 k0 (by decide) (fun _ => rfl) rfl inX8 (by decide) (v := .ref (ad (r0 + 5))) rfl kc_270 dX8_pass_13 ?_
  refine Tc_geti (pc := 16) C (r0 + 5) 11 1 6 (kd_8 k0).2.2.2.2.1 (by decide) (fun _ => rfl) rfl inX11 (by decide) rfl kc_361 dX8_pass_16 (fun z4 => ?_)
  refine T_iconst (pc := 19) C dX8_pass_19 ?_
  refine T_isub (pc := 20) C dX8_pass_20 ?_
  refine T_blN (fun v5 => ?_)
  refine T_istore_n (pc := 21) (L' := [(3, vi v5), (2, vi 0), (0, .ref (ad r0)), (1, vi x1)]) C dX8_pass_21 rfl (Nat.le_of_ble_eq_true rfl) rfl ?_
  refine T_sub (L' := [(0, .ref (ad r0)), (2, vi 0), (3, vi v5)]) [2, 1, 0] rfl ?_
  refine T_guard (fun g37 => ?_)
  refine T_loopE (lp_X8_pass_22 zk hZ C N r0 k0 N s3 0 v5 (rngL rfl) g37) (fun q38 hq38 => ?_)
  refine T_aload_n (pc := 88) C dX8_pass_88 rfl 0 rfl ?_
  refine Tc_getr (pc := 89) C r0 8 9 10 k0 (by decide) (fun _ => rfl) rfl inX8 (by decide) (v := .ref (ad (r0 + 5))) rfl kc_270 dX8_pass_89 ?_
  refine T_dup (pc := 92) C dX8_pass_92 rfl ?_
  refine Tc_geti (pc := 93) C (r0 + 5) 11 5 6 (kd_8 k0).2.2.2.2.1 (by decide) (fun _ => rfl) rfl inX11 (by decide) rfl kc_388 dX8_pass_93 (fun z39 => ?_)
  refine T_iload_n (pc := 96) C dX8_pass_96 rfl 1 rfl ?_
  refine T_iadd (pc := 97) C dX8_pass_97 ?_
  refine T_guard (fun g40 => ?_)
  refine Tc_put (pc := 98) C (ty := .int) (r0 + 5) 11 5 6 (kd_8 k0).2.2.2.2.1 (by decide) (fun _ => rfl) rfl inX11 (by decide) (fun _ => rfl) g40 tyX11 tyX11_ok nmX11 rfl (Nat.le_of_ble_eq_true rfl) kc_388 rfl (nar_I _) (fit_I _) dX8_pass_98 ?_
  refine T_blS (fun s41 => ?_)
  refine T_iload_n (pc := 101) C dX8_pass_101 rfl 1 rfl ?_
  exact T_iret (pc := 102) (s41, q38.2) (fun h9 => h9) hq38 (nar_I _) (by decide) dX8_pass_102

abbrev rm_X8_tripFault : Room := ⟨1, 0, 0, 21⟩
theorem cm_X8_tripFault : cmV yX8_tripFault cX8_tripFault 4 (some (.object "RingTransit$Fault")) 3 := ⟨kc_63, kc_147, ⟨by decide +kernel, by decide +kernel, by decide +kernel⟩, kc_392, kc_393⟩
def f_X8_tripFault (σ : Sm) (r0 : Nat) (x1 : Int) (x2 : Int) (x3 : Int) : Option Int :=
  (f_X8_hasLine σ r0 x1).bind fun v1 => (if v1 = 0 then some 1 else (if x2 < 0 then some 2 else (if 99 < x2 then some 2 else if 0 ≤ x1 ∧ x1 < 5 then (f_X7_hasPosition σ (r0 + 23 + 2 * x1.toNat) x3).bind fun v7 => (if v7 = 0 then some 2 else (if (σ (r0 + 23 + 2 * x1.toNat) 6) < 2 then some 3 else some 0)) else none)))
theorem ct_X8_tripFault {l : Launch} {cy : Nat → ClassId} {ad : Nat → Nat} {E : Nat → Nat → Nat} {G : va_G} {Z : vZ} (zk : Zk Z E) (σ : Sm) (r0 : Nat) (x1 : Int) (x2 : Int) (x3 : Int) (k0 : kd r0 = 8) (h1 : rng x1) (h2 : rng x2) (h3 : rng x3) (hw : wfc σ) (o : Int) (h : f_X8_tripFault σ r0 x1 x2 x3 = some o) : CzE Z E 0 6 l yX8_tripFault cX8_tripFault 4 (some (.object "RingTransit$Fault")) rm_X8_tripFault (wlc cy ad E) wfc G (tyc cy) [.ref (ad r0), vi x1, vi x2, vi x3] σ σ o := by
  refine czE_of zk.1 (plainFor_of_name (by decide)) (Nat.le_of_ble_eq_true rfl) hw (σ, o) o h (fun X Y v => EndE E 0 6 X Y cX8_tripFault rm_X8_tripFault (σ, v)) (fun _ _ h => h) (fun X A Q hZ hX C => ?_)
  replace C : Cx X (Yc cy ad E G A 4 Q) cX8_tripFault RX8 (some (.object "RingTransit$Fault")) rm_X8_tripFault (tyc cy) := C
  replace hZ : Zx Z X (Yc cy ad E G A 4 Q) := hZ
  show T X (Yc cy ad E G A 4 Q) (fun v => EndE E 0 6 X (Yc cy ad E G A 4 Q) cX8_tripFault rm_X8_tripFault (σ, v)) 0 0 0 [(0, .ref (ad r0)), (1, vi x1), (2, vi x2), (3, vi x3)] [] σ (f_X8_tripFault σ r0 x1 x2 x3)
  unfold f_X8_tripFault
  refine T_aload_n (pc := 0) C dX8_tripFault_0 rfl 0 rfl ?_
  refine T_iload_n (pc := 1) C dX8_tripFault_1 rfl 1 rfl ?_
  refine T_czVip (pc := 2) zk.1 hZ C [vi x1] [] (fun o h9 hw => ct_X8_hasLine zk σ r0 x1 k0 h1 hw o h9) kc_306 cm_X8_hasLine (rcc k0 (by decide) (fun _ => rfl) rfl) rfl rfl (Nat.le_of_ble_eq_true rfl) (by decide) (a' := 0) (b' := 0) ⟨rfl, rfl⟩ dX8_tripFault_2 (fun v1 hv1 => ?_)
  refine T_if_ne (pc := 5) C 12 dX8_tripFault_5 rfl hv1.1 (fun c2 => ?_) (fun c2 => ?_)
  · refine T_iload_n (pc := 12) C dX8_tripFault_12 rfl 2 rfl ?_
    refine T_if_lt (pc := 13) C 35 dX8_tripFault_13 rfl h2 (fun c3 => ?_) (fun c3 => ?_)
    · refine T_gets zk.2 hZ (pc := 35) C 2 2 rfl (by decide) kc_311 dX8_tripFault_35 ?_
      exact T_eret (pc := 38) 2 (fun h9 => h9) (by decide) (by decide) dX8_tripFault_38
    · refine T_iload_n (pc := 16) C dX8_tripFault_16 rfl 2 rfl ?_
      refine T_bipush (pc := 17) C dX8_tripFault_17 (by decide) ?_
      refine T_icmp_gt (pc := 19) C 35 dX8_tripFault_19 rfl h2 (rngL rfl) (fun c4 => ?_) (fun c4 => ?_)
      · refine T_gets zk.2 hZ (pc := 35) C 2 2 rfl (by decide) kc_311 dX8_tripFault_35 ?_
        exact T_eret (pc := 38) 2 (fun h9 => h9) (by decide) (by decide) dX8_tripFault_38
      · refine T_aload_n (pc := 22) C dX8_tripFault_22 rfl 0 rfl ?_
        refine Tc_getr (pc := 23) C r0 8 8 10 k0 (by decide) (fun _ => rfl) rfl inX8 (by decide) (v := .ref (ad (r0 + 4))) rfl kc_268 dX8_tripFault_23 ?_
        refine T_iload_n (pc := 26) C dX8_tripFault_26 rfl 1 rfl ?_
        refine T_guard (fun g5 => ?_)
        refine Tc_ald27 (pc := 27) C r0 k0 g5 dX8_tripFault_27 (fun y6 => ?_)
        refine T_iload_n (pc := 28) C dX8_tripFault_28 rfl 3 rfl ?_
        refine T_czVip (pc := 29) zk.1 hZ C [vi x3] [] (fun o h9 hw => ct_X7_hasPosition zk σ (r0 + 23 + 2 * x1.toNat) x3 y6 h3 hw o h9) kc_391 cm_X7_hasPosition (rcc y6 (by decide) (fun _ => rfl) rfl) rfl rfl (Nat.le_of_ble_eq_true rfl) (by decide) (a' := 0) (b' := 0) ⟨rfl, rfl⟩ dX8_tripFault_29 (fun v7 hv7 => ?_)
        refine T_if_ne (pc := 32) C 39 dX8_tripFault_32 rfl hv7.1 (fun c8 => ?_) (fun c8 => ?_)
        · refine T_aload_n (pc := 39) C dX8_tripFault_39 rfl 0 rfl ?_
          refine Tc_getr (pc := 40) C r0 8 8 10 k0 (by decide) (fun _ => rfl) rfl inX8 (by decide) (v := .ref (ad (r0 + 4))) rfl kc_268 dX8_tripFault_40 ?_
          refine T_iload_n (pc := 43) C dX8_tripFault_43 rfl 1 rfl ?_
          refine Tc_ald27 (pc := 44) C r0 k0 g5 dX8_tripFault_44 (fun y9 => ?_)
          refine Tc_geti (pc := 45) C (r0 + 23 + 2 * x1.toNat) 7 6 8 y9 (by decide) (fun _ => rfl) rfl inX7 (by decide) rfl kc_334 dX8_tripFault_45 (fun z10 => ?_)
          refine T_iconst (pc := 48) C dX8_tripFault_48 ?_
          refine T_icmp_lt (pc := 49) C 58 dX8_tripFault_49 rfl z10.1 (rngL rfl) (fun c11 => ?_) (fun c11 => ?_)
          · refine T_gets zk.2 hZ (pc := 58) C 3 3 rfl (by decide) kc_312 dX8_tripFault_58 ?_
            exact T_eret (pc := 61) 3 (fun h9 => h9) (by decide) (by decide) dX8_tripFault_61
          · refine T_gets zk.2 hZ (pc := 52) C 0 0 rfl (by decide) kc_301 dX8_tripFault_52 ?_
            refine T_goto (pc := 55) C 61 dX8_tripFault_55 rfl ?_
            exact T_eret (pc := 61) 0 (fun h9 => h9) (by decide) (by decide) dX8_tripFault_61
        · refine T_gets zk.2 hZ (pc := 35) C 2 2 rfl (by decide) kc_311 dX8_tripFault_35 ?_
          exact T_eret (pc := 38) 2 (fun h9 => h9) (by decide) (by decide) dX8_tripFault_38
  · refine T_gets zk.2 hZ (pc := 8) C 1 1 rfl (by decide) kc_300 dX8_tripFault_8 ?_
    exact T_eret (pc := 11) 1 (fun h9 => h9) (by decide) (by decide) dX8_tripFault_11

abbrev rm_X8_nextTripFault : Room := ⟨1, 0, 0, 21⟩
theorem cm_X8_nextTripFault : cmV yX8_nextTripFault cX8_nextTripFault 5 (some (.object "RingTransit$Fault")) 3 := ⟨kc_64, kc_147, ⟨by decide +kernel, by decide +kernel, by decide +kernel⟩, kc_394, kc_395⟩
def f_X8_nextTripFault (σ : Sm) (r0 : Nat) (x1 : Int) (x2 : Int) (x3 : Int) : Option Int :=
  (f_X8_hasLine σ r0 x1).bind fun v1 => (if v1 = 0 then some 1 else (if x2 < 0 then some 2 else if 0 ≤ x1 ∧ x1 < 5 then (if (σ (r0 + 23 + 2 * x1.toNat) 6) ≤ x2 then some 2 else (if x3 < 0 then some 2 else (if x3 ≤ 9999 then (f_X7_isRunning σ (r0 + 23 + 2 * x1.toNat)).bind fun v14 => (if v14 = 0 then some 3 else some 0) else some 2))) else none))
theorem ct_X8_nextTripFault {l : Launch} {cy : Nat → ClassId} {ad : Nat → Nat} {E : Nat → Nat → Nat} {G : va_G} {Z : vZ} (zk : Zk Z E) (σ : Sm) (r0 : Nat) (x1 : Int) (x2 : Int) (x3 : Int) (k0 : kd r0 = 8) (h1 : rng x1) (h2 : rng x2) (h3 : rng x3) (hw : wfc σ) (o : Int) (h : f_X8_nextTripFault σ r0 x1 x2 x3 = some o) : CzE Z E 0 6 l yX8_nextTripFault cX8_nextTripFault 5 (some (.object "RingTransit$Fault")) rm_X8_nextTripFault (wlc cy ad E) wfc G (tyc cy) [.ref (ad r0), vi x1, vi x2, vi x3] σ σ o := by
  refine czE_of zk.1 (plainFor_of_name (by decide)) (Nat.le_of_ble_eq_true rfl) hw (σ, o) o h (fun X Y v => EndE E 0 6 X Y cX8_nextTripFault rm_X8_nextTripFault (σ, v)) (fun _ _ h => h) (fun X A Q hZ hX C => ?_)
  replace C : Cx X (Yc cy ad E G A 5 Q) cX8_nextTripFault RX8 (some (.object "RingTransit$Fault")) rm_X8_nextTripFault (tyc cy) := C
  replace hZ : Zx Z X (Yc cy ad E G A 5 Q) := hZ
  show T X (Yc cy ad E G A 5 Q) (fun v => EndE E 0 6 X (Yc cy ad E G A 5 Q) cX8_nextTripFault rm_X8_nextTripFault (σ, v)) 0 0 0 [(0, .ref (ad r0)), (1, vi x1), (2, vi x2), (3, vi x3)] [] σ (f_X8_nextTripFault σ r0 x1 x2 x3)
  unfold f_X8_nextTripFault
  refine T_aload_n (pc := 0) C dX8_nextTripFault_0 rfl 0 rfl ?_
  refine T_iload_n (pc := 1) C dX8_nextTripFault_1 rfl 1 rfl ?_
  refine T_czVip (pc := 2) zk.1 hZ C [vi x1] [] (fun o h9 hw => ct_X8_hasLine zk σ r0 x1 k0 h1 hw o h9) kc_306 cm_X8_hasLine (rcc k0 (by decide) (fun _ => rfl) rfl) rfl rfl (Nat.le_of_ble_eq_true rfl) (by decide) (a' := 0) (b' := 0) ⟨rfl, rfl⟩ dX8_nextTripFault_2 (fun v1 hv1 => ?_)
  refine T_if_ne (pc := 5) C 12 dX8_nextTripFault_5 rfl hv1.1 (fun c2 => ?_) (fun c2 => ?_)
  · refine T_iload_n (pc := 12) C dX8_nextTripFault_12 rfl 2 rfl ?_
    refine T_if_lt (pc := 13) C 33 dX8_nextTripFault_13 rfl h2 (fun c3 => ?_) (fun c3 => ?_)
    · refine T_iconst (pc := 33) C dX8_nextTripFault_33 ?_
      refine T_istore (pc := 34) (L' := [(4, vi 0), (0, .ref (ad r0)), (1, vi x1), (2, vi x2), (3, vi x3)]) C dX8_nextTripFault_34 (Nat.le_of_ble_eq_true rfl) rfl ?_
      refine T_iload (pc := 36) C dX8_nextTripFault_36 0 rfl ?_
      refine T_if_eq_t (pc := 38) C 52 dX8_nextTripFault_38 rfl (rngL rfl) (by decide) ?_
      refine T_gets zk.2 hZ (pc := 52) C 2 2 rfl (by decide) kc_311 dX8_nextTripFault_52 ?_
      exact T_eret (pc := 55) 2 (fun h9 => h9) (by decide) (by decide) dX8_nextTripFault_55
    · refine T_iload_n (pc := 16) C dX8_nextTripFault_16 rfl 2 rfl ?_
      refine T_aload_n (pc := 17) C dX8_nextTripFault_17 rfl 0 rfl ?_
      refine Tc_getr (pc := 18) C r0 8 8 10 k0 (by decide) (fun _ => rfl) rfl inX8 (by decide) (v := .ref (ad (r0 + 4))) rfl kc_268 dX8_nextTripFault_18 ?_
      refine T_iload_n (pc := 21) C dX8_nextTripFault_21 rfl 1 rfl ?_
      refine T_guard (fun g5 => ?_)
      refine Tc_ald27 (pc := 22) C r0 k0 g5 dX8_nextTripFault_22 (fun y6 => ?_)
      refine Tc_geti (pc := 23) C (r0 + 23 + 2 * x1.toNat) 7 6 8 y6 (by decide) (fun _ => rfl) rfl inX7 (by decide) rfl kc_334 dX8_nextTripFault_23 (fun z7 => ?_)
      refine T_icmp_ge (pc := 26) C 33 dX8_nextTripFault_26 rfl h2 z7.1 (fun c8 => ?_) (fun c8 => ?_)
      · refine T_iconst (pc := 33) C dX8_nextTripFault_33 ?_
        refine T_istore (pc := 34) (L' := [(4, vi 0), (0, .ref (ad r0)), (1, vi x1), (2, vi x2), (3, vi x3)]) C dX8_nextTripFault_34 (Nat.le_of_ble_eq_true rfl) rfl ?_
        refine T_iload (pc := 36) C dX8_nextTripFault_36 0 rfl ?_
        refine T_if_eq_t (pc := 38) C 52 dX8_nextTripFault_38 rfl (rngL rfl) (by decide) ?_
        refine T_gets zk.2 hZ (pc := 52) C 2 2 rfl (by decide) kc_311 dX8_nextTripFault_52 ?_
        exact T_eret (pc := 55) 2 (fun h9 => h9) (by decide) (by decide) dX8_nextTripFault_55
      · refine T_iconst (pc := 29) C dX8_nextTripFault_29 ?_
        refine T_goto (pc := 30) C 34 dX8_nextTripFault_30 rfl ?_
        refine T_istore (pc := 34) (L' := [(4, vi 1), (0, .ref (ad r0)), (1, vi x1), (2, vi x2), (3, vi x3)]) C dX8_nextTripFault_34 (Nat.le_of_ble_eq_true rfl) rfl ?_
        refine T_iload (pc := 36) C dX8_nextTripFault_36 0 rfl ?_
        refine T_if_eq_f (pc := 38) C 52 dX8_nextTripFault_38 rfl (rngL rfl) (by decide) ?_
        refine T_iload_n (pc := 41) C dX8_nextTripFault_41 rfl 4 rfl ?_
        refine T_if_lt (pc := 42) C 52 dX8_nextTripFault_42 rfl h3 (fun c11 => ?_) (fun c11 => ?_)
        · refine T_gets zk.2 hZ (pc := 52) C 2 2 rfl (by decide) kc_311 dX8_nextTripFault_52 ?_
          exact T_eret (pc := 55) 2 (fun h9 => h9) (by decide) (by decide) dX8_nextTripFault_55
        · refine T_iload_n (pc := 45) C dX8_nextTripFault_45 rfl 4 rfl ?_
          refine T_sipush (pc := 46) C dX8_nextTripFault_46 (by decide) ?_
          refine T_icmp_le (pc := 49) C 56 dX8_nextTripFault_49 rfl h3 (rngL rfl) (fun c12 => ?_) (fun c12 => ?_)
          · refine T_aload_n (pc := 56) C dX8_nextTripFault_56 rfl 1 rfl ?_
            refine Tc_getr (pc := 57) C r0 8 8 10 k0 (by decide) (fun _ => rfl) rfl inX8 (by decide) (v := .ref (ad (r0 + 4))) rfl kc_268 dX8_nextTripFault_57 ?_
            refine T_iload_n (pc := 60) C dX8_nextTripFault_60 rfl 2 rfl ?_
            refine Tc_ald27 (pc := 61) C r0 k0 g5 dX8_nextTripFault_61 (fun y13 => ?_)
            refine T_czVip (pc := 62) zk.1 hZ C [] [] (fun o h9 hw => ct_X7_isRunning zk σ (r0 + 23 + 2 * x1.toNat) y13 hw o h9) kc_360 cm_X7_isRunning (rcc y13 (by decide) (fun _ => rfl) rfl) rfl rfl (Nat.le_of_ble_eq_true rfl) (by decide) (a' := 0) (b' := 0) ⟨rfl, rfl⟩ dX8_nextTripFault_62 (fun v14 hv14 => ?_)
            refine T_if_eq (pc := 65) C 74 dX8_nextTripFault_65 rfl hv14.1 (fun c15 => ?_) (fun c15 => ?_)
            · refine T_gets zk.2 hZ (pc := 74) C 3 3 rfl (by decide) kc_312 dX8_nextTripFault_74 ?_
              exact T_eret (pc := 77) 3 (fun h9 => h9) (by decide) (by decide) dX8_nextTripFault_77
            · refine T_gets zk.2 hZ (pc := 68) C 0 0 rfl (by decide) kc_301 dX8_nextTripFault_68 ?_
              refine T_goto (pc := 71) C 77 dX8_nextTripFault_71 rfl ?_
              exact T_eret (pc := 77) 0 (fun h9 => h9) (by decide) (by decide) dX8_nextTripFault_77
          · refine T_gets zk.2 hZ (pc := 52) C 2 2 rfl (by decide) kc_311 dX8_nextTripFault_52 ?_
            exact T_eret (pc := 55) 2 (fun h9 => h9) (by decide) (by decide) dX8_nextTripFault_55
  · refine T_gets zk.2 hZ (pc := 8) C 1 1 rfl (by decide) kc_300 dX8_nextTripFault_8 ?_
    exact T_eret (pc := 11) 1 (fun h9 => h9) (by decide) (by decide) dX8_nextTripFault_11

abbrev rm_X8_journeyFault : Room := ⟨1, 0, 0, 21⟩
theorem cm_X8_journeyFault : cmV yX8_journeyFault cX8_journeyFault 4 (some (.object "RingTransit$Fault")) 3 := ⟨kc_65, kc_147, ⟨by decide +kernel, by decide +kernel, by decide +kernel⟩, kc_396, kc_397⟩
def f_X8_journeyFault (σ : Sm) (r0 : Nat) (x1 : Int) (x2 : Int) (x3 : Int) : Option Int :=
  (f_X8_hasStop σ r0 x1).bind fun v1 => (if v1 = 0 then some 1 else (f_X8_hasStop σ r0 x2).bind fun v3 => (if v3 = 0 then some 1 else (if x3 < 0 then some 2 else (if 9999 < x3 then some 2 else some 0))))
theorem ct_X8_journeyFault {l : Launch} {cy : Nat → ClassId} {ad : Nat → Nat} {E : Nat → Nat → Nat} {G : va_G} {Z : vZ} (zk : Zk Z E) (σ : Sm) (r0 : Nat) (x1 : Int) (x2 : Int) (x3 : Int) (k0 : kd r0 = 8) (h1 : rng x1) (h2 : rng x2) (h3 : rng x3) (hw : wfc σ) (o : Int) (h : f_X8_journeyFault σ r0 x1 x2 x3 = some o) : CzE Z E 0 6 l yX8_journeyFault cX8_journeyFault 4 (some (.object "RingTransit$Fault")) rm_X8_journeyFault (wlc cy ad E) wfc G (tyc cy) [.ref (ad r0), vi x1, vi x2, vi x3] σ σ o := by
  refine czE_of zk.1 (plainFor_of_name (by decide)) (Nat.le_of_ble_eq_true rfl) hw (σ, o) o h (fun X Y v => EndE E 0 6 X Y cX8_journeyFault rm_X8_journeyFault (σ, v)) (fun _ _ h => h) (fun X A Q hZ hX C => ?_)
  replace C : Cx X (Yc cy ad E G A 4 Q) cX8_journeyFault RX8 (some (.object "RingTransit$Fault")) rm_X8_journeyFault (tyc cy) := C
  replace hZ : Zx Z X (Yc cy ad E G A 4 Q) := hZ
  show T X (Yc cy ad E G A 4 Q) (fun v => EndE E 0 6 X (Yc cy ad E G A 4 Q) cX8_journeyFault rm_X8_journeyFault (σ, v)) 0 0 0 [(0, .ref (ad r0)), (1, vi x1), (2, vi x2), (3, vi x3)] [] σ (f_X8_journeyFault σ r0 x1 x2 x3)
  unfold f_X8_journeyFault
  refine T_aload_n (pc := 0) C dX8_journeyFault_0 rfl 0 rfl ?_
  refine T_iload_n (pc := 1) C dX8_journeyFault_1 rfl 1 rfl ?_
  refine T_czVip (pc := 2) zk.1 hZ C [vi x1] [] (fun o h9 hw => ct_X8_hasStop zk σ r0 x1 k0 h1 hw o h9) kc_299 cm_X8_hasStop (rcc k0 (by decide) (fun _ => rfl) rfl) rfl rfl (Nat.le_of_ble_eq_true rfl) (by decide) (a' := 0) (b' := 0) ⟨rfl, rfl⟩ dX8_journeyFault_2 (fun v1 hv1 => ?_)
  refine T_if_eq (pc := 5) C 16 dX8_journeyFault_5 rfl hv1.1 (fun c2 => ?_) (fun c2 => ?_)
  · refine T_gets zk.2 hZ (pc := 16) C 1 1 rfl (by decide) kc_300 dX8_journeyFault_16 ?_
    exact T_eret (pc := 19) 1 (fun h9 => h9) (by decide) (by decide) dX8_journeyFault_19
  · refine T_aload_n (pc := 8) C dX8_journeyFault_8 rfl 0 rfl ?_
    refine T_iload_n (pc := 9) C dX8_journeyFault_9 rfl 2 rfl ?_
    refine T_czVip (pc := 10) zk.1 hZ C [vi x2] [] (fun o h9 hw => ct_X8_hasStop zk σ r0 x2 k0 h2 hw o h9) kc_299 cm_X8_hasStop (rcc k0 (by decide) (fun _ => rfl) rfl) rfl rfl (Nat.le_of_ble_eq_true rfl) (by decide) (a' := 0) (b' := 0) ⟨rfl, rfl⟩ dX8_journeyFault_10 (fun v3 hv3 => ?_)
    refine T_if_ne (pc := 13) C 20 dX8_journeyFault_13 rfl hv3.1 (fun c4 => ?_) (fun c4 => ?_)
    · refine T_iload_n (pc := 20) C dX8_journeyFault_20 rfl 3 rfl ?_
      refine T_if_lt (pc := 21) C 37 dX8_journeyFault_21 rfl h3 (fun c5 => ?_) (fun c5 => ?_)
      · refine T_gets zk.2 hZ (pc := 37) C 2 2 rfl (by decide) kc_311 dX8_journeyFault_37 ?_
        exact T_eret (pc := 40) 2 (fun h9 => h9) (by decide) (by decide) dX8_journeyFault_40
      · refine T_iload_n (pc := 24) C dX8_journeyFault_24 rfl 3 rfl ?_
        refine T_sipush (pc := 25) C dX8_journeyFault_25 (by decide) ?_
        refine T_icmp_gt (pc := 28) C 37 dX8_journeyFault_28 rfl h3 (rngL rfl) (fun c6 => ?_) (fun c6 => ?_)
        · refine T_gets zk.2 hZ (pc := 37) C 2 2 rfl (by decide) kc_311 dX8_journeyFault_37 ?_
          exact T_eret (pc := 40) 2 (fun h9 => h9) (by decide) (by decide) dX8_journeyFault_40
        · refine T_gets zk.2 hZ (pc := 31) C 0 0 rfl (by decide) kc_301 dX8_journeyFault_31 ?_
          refine T_goto (pc := 34) C 40 dX8_journeyFault_34 rfl ?_
          exact T_eret (pc := 40) 0 (fun h9 => h9) (by decide) (by decide) dX8_journeyFault_40
    · refine T_gets zk.2 hZ (pc := 16) C 1 1 rfl (by decide) kc_300 dX8_journeyFault_16 ?_
      exact T_eret (pc := 19) 1 (fun h9 => h9) (by decide) (by decide) dX8_journeyFault_19

abbrev rm_X8_flowFault : Room := ⟨1, 0, 0, 21⟩
theorem cm_X8_flowFault : cmV yX8_flowFault cX8_flowFault 3 (some (.object "RingTransit$Fault")) 2 := ⟨kc_66, kc_147, ⟨by decide +kernel, by decide +kernel, by decide +kernel⟩, kc_398, kc_399⟩
def f_X8_flowFault (σ : Sm) (r0 : Nat) (x1 : Int) (x2 : Int) : Option Int :=
  (f_X8_hasStop σ r0 x1).bind fun v1 => (if v1 = 0 then some 1 else (f_X8_hasStop σ r0 x2).bind fun v3 => (if v3 = 0 then some 1 else (if x1 = x2 then some 2 else some 0)))
theorem ct_X8_flowFault {l : Launch} {cy : Nat → ClassId} {ad : Nat → Nat} {E : Nat → Nat → Nat} {G : va_G} {Z : vZ} (zk : Zk Z E) (σ : Sm) (r0 : Nat) (x1 : Int) (x2 : Int) (k0 : kd r0 = 8) (h1 : rng x1) (h2 : rng x2) (hw : wfc σ) (o : Int) (h : f_X8_flowFault σ r0 x1 x2 = some o) : CzE Z E 0 6 l yX8_flowFault cX8_flowFault 3 (some (.object "RingTransit$Fault")) rm_X8_flowFault (wlc cy ad E) wfc G (tyc cy) [.ref (ad r0), vi x1, vi x2] σ σ o := by
  refine czE_of zk.1 (plainFor_of_name (by decide)) (Nat.le_of_ble_eq_true rfl) hw (σ, o) o h (fun X Y v => EndE E 0 6 X Y cX8_flowFault rm_X8_flowFault (σ, v)) (fun _ _ h => h) (fun X A Q hZ hX C => ?_)
  replace C : Cx X (Yc cy ad E G A 3 Q) cX8_flowFault RX8 (some (.object "RingTransit$Fault")) rm_X8_flowFault (tyc cy) := C
  replace hZ : Zx Z X (Yc cy ad E G A 3 Q) := hZ
  show T X (Yc cy ad E G A 3 Q) (fun v => EndE E 0 6 X (Yc cy ad E G A 3 Q) cX8_flowFault rm_X8_flowFault (σ, v)) 0 0 0 [(0, .ref (ad r0)), (1, vi x1), (2, vi x2)] [] σ (f_X8_flowFault σ r0 x1 x2)
  unfold f_X8_flowFault
  refine T_aload_n (pc := 0) C dX8_flowFault_0 rfl 0 rfl ?_
  refine T_iload_n (pc := 1) C dX8_flowFault_1 rfl 1 rfl ?_
  refine T_czVip (pc := 2) zk.1 hZ C [vi x1] [] (fun o h9 hw => ct_X8_hasStop zk σ r0 x1 k0 h1 hw o h9) kc_299 cm_X8_hasStop (rcc k0 (by decide) (fun _ => rfl) rfl) rfl rfl (Nat.le_of_ble_eq_true rfl) (by decide) (a' := 0) (b' := 0) ⟨rfl, rfl⟩ dX8_flowFault_2 (fun v1 hv1 => ?_)
  refine T_if_eq (pc := 5) C 16 dX8_flowFault_5 rfl hv1.1 (fun c2 => ?_) (fun c2 => ?_)
  · refine T_gets zk.2 hZ (pc := 16) C 1 1 rfl (by decide) kc_300 dX8_flowFault_16 ?_
    exact T_eret (pc := 19) 1 (fun h9 => h9) (by decide) (by decide) dX8_flowFault_19
  · refine T_aload_n (pc := 8) C dX8_flowFault_8 rfl 0 rfl ?_
    refine T_iload_n (pc := 9) C dX8_flowFault_9 rfl 2 rfl ?_
    refine T_czVip (pc := 10) zk.1 hZ C [vi x2] [] (fun o h9 hw => ct_X8_hasStop zk σ r0 x2 k0 h2 hw o h9) kc_299 cm_X8_hasStop (rcc k0 (by decide) (fun _ => rfl) rfl) rfl rfl (Nat.le_of_ble_eq_true rfl) (by decide) (a' := 0) (b' := 0) ⟨rfl, rfl⟩ dX8_flowFault_10 (fun v3 hv3 => ?_)
    refine T_if_ne (pc := 13) C 20 dX8_flowFault_13 rfl hv3.1 (fun c4 => ?_) (fun c4 => ?_)
    · refine T_iload_n (pc := 20) C dX8_flowFault_20 rfl 1 rfl ?_
      refine T_iload_n (pc := 21) C dX8_flowFault_21 rfl 2 rfl ?_
      refine T_icmp_ne (pc := 22) C 31 dX8_flowFault_22 rfl h1 h2 (fun c5 => ?_) (fun c5 => ?_)
      · refine T_gets zk.2 hZ (pc := 31) C 0 0 rfl (by decide) kc_301 dX8_flowFault_31 ?_
        exact T_eret (pc := 34) 0 (fun h9 => h9) (by decide) (by decide) dX8_flowFault_34
      · refine T_gets zk.2 hZ (pc := 25) C 2 2 rfl (by decide) kc_311 dX8_flowFault_25 ?_
        refine T_goto (pc := 28) C 34 dX8_flowFault_28 rfl ?_
        exact T_eret (pc := 34) 2 (fun h9 => h9) (by decide) (by decide) dX8_flowFault_34
    · refine T_gets zk.2 hZ (pc := 16) C 1 1 rfl (by decide) kc_300 dX8_flowFault_16 ?_
      exact T_eret (pc := 19) 1 (fun h9 => h9) (by decide) (by decide) dX8_flowFault_19

abbrev rm_X8_closedCount : Room := ⟨0, 0, 0, 0⟩
theorem cm_X8_closedCount : cmV yX8_closedCount cX8_closedCount 3 (some .int) 0 := ⟨kc_67, kc_147, ⟨by decide +kernel, by decide +kernel, by decide +kernel⟩, kc_400, kc_401⟩
def f_X8_closedCount_4 (σ : Sm) (r0 : Nat) : Nat → Int → Int → Option (Int)
  | 0, _, _ => none
  | n + 1, x1, x2 => (if (σ r0 2) ≤ x2 then some x1 else if 0 ≤ x2 ∧ x2 < 10 then (if (σ (r0 + 2) x2.toNat) = 0 then f_X8_closedCount_4 σ r0 n x1 (x2 + 1) else if rng (x1 + 1) then f_X8_closedCount_4 σ r0 n (x1 + 1) (x2 + 1) else none) else none)
theorem lp_X8_closedCount_4 {X : vjX} {A : Nat → Prop} {Q : State → Prop} {cy : Nat → ClassId} {ad : Nat → Nat} {E : Nat → Nat → Nat} {G : va_G} {Z : vZ} (zk : Zk Z E) (hZ : Zx Z X (Yc cy ad E G A 3 Q)) (C : Cx X (Yc cy ad E G A 3 Q) cX8_closedCount RX8 (some .int) rm_X8_closedCount (tyc cy)) (σ : Sm) (r0 : Nat) (k0 : kd r0 = 8) : ∀ (n : Nat) (x1 : Int) (x2 : Int) (h1 : rng x1) (h2 : rng x2), T X (Yc cy ad E G A 3 Q) (fun (q : Int) => rng q → J X (Yc cy ad E G A 3 Q) 0 0 30 [(1, vi q)] [] σ) 0 0 4 [(0, .ref (ad r0)), (1, vi x1), (2, vi x2)] [] σ (f_X8_closedCount_4 σ r0 n x1 x2) := by
  intro n
  induction n with
  | zero => intro x1 x2 h1 h2; exact T_none
  | succ n ih =>
    intro x1 x2 h1 h2
    rw [f_X8_closedCount_4]
    refine T_iload_n (pc := 4) C dX8_closedCount_4 rfl 2 rfl ?_
    refine T_aload_n (pc := 5) C dX8_closedCount_5 rfl 0 rfl ?_
    refine Tc_geti (pc := 6) C r0 8 2 10 k0 (by decide) (fun _ => rfl) rfl inX8 (by decide) rfl kc_263 dX8_closedCount_6 (fun z13 => ?_)
    refine T_icmp_ge (pc := 9) C 30 dX8_closedCount_9 rfl h2 z13.1 (fun c14 => ?_) (fun c14 => ?_)
    · refine T_sub (L' := [(1, vi x1)]) [1] rfl ?_
      exact T_exit (fun h9 => h9 h1)
    · refine T_aload_n (pc := 12) C dX8_closedCount_12 rfl 0 rfl ?_
      refine Tc_getr (pc := 13) C r0 8 4 10 k0 (by decide) (fun _ => rfl) rfl inX8 (by decide) (v := .ref (ad (r0 + 2))) rfl kc_151 dX8_closedCount_13 ?_
      refine T_iload_n (pc := 16) C dX8_closedCount_16 rfl 2 rfl ?_
      refine T_guard (fun g15 => ?_)
      refine Tc_zald (pc := 17) C (r0 + 2) x2.toNat (kd_8 k0).2.1 g15 rfl dX8_closedCount_17 (fun z16 => ?_)
      refine T_if_eq (pc := 18) C 24 dX8_closedCount_18 rfl (bit_rng z16) (fun c17 => ?_) (fun c17 => ?_)
      · refine T_iinc (pc := 24) (L' := [(2, vi (x2 + 1)), (0, .ref (ad r0)), (1, vi x1)]) C dX8_closedCount_24 (Nat.le_of_ble_eq_true rfl) 2 rfl rfl ?_
        refine T_goto (pc := 27) C 4 dX8_closedCount_27 rfl ?_
        refine T_sub (L' := [(0, .ref (ad r0)), (1, vi x1), (2, vi (x2 + 1))]) [1, 2, 0] rfl ?_
        exact ih x1 (x2 + 1) h1 (rng_inc c14 h2 z13.1)
      · refine T_iinc (pc := 21) (L' := [(1, vi (x1 + 1)), (0, .ref (ad r0)), (2, vi x2)]) C dX8_closedCount_21 (Nat.le_of_ble_eq_true rfl) 1 rfl rfl ?_
        refine T_iinc (pc := 24) (L' := [(2, vi (x2 + 1)), (1, vi (x1 + 1)), (0, .ref (ad r0))]) C dX8_closedCount_24 (Nat.le_of_ble_eq_true rfl) 2 rfl rfl ?_
        refine T_goto (pc := 27) C 4 dX8_closedCount_27 rfl ?_
        refine T_sub (L' := [(0, .ref (ad r0)), (1, vi (x1 + 1)), (2, vi (x2 + 1))]) [2, 1, 0] rfl ?_
        refine T_guard (fun g18 => ?_)
        exact ih (x1 + 1) (x2 + 1) g18 (rng_inc c14 h2 z13.1)
def f_X8_closedCount (N : Nat) (σ : Sm) (r0 : Nat) : Option Int :=
  (f_X8_closedCount_4 σ r0 N 0 0).bind fun q19 => some q19
theorem ct_X8_closedCount {l : Launch} {cy : Nat → ClassId} {ad : Nat → Nat} {E : Nat → Nat → Nat} {G : va_G} {Z : vZ} (zk : Zk Z E) (N : Nat) (σ : Sm) (r0 : Nat) (k0 : kd r0 = 8) (hw : wfc σ) (o : Int) (h : f_X8_closedCount N σ r0 = some o) : CzI Z l yX8_closedCount cX8_closedCount 3 (some .int) rm_X8_closedCount (wlc cy ad E) wfc G (tyc cy) [.ref (ad r0)] σ σ o := by
  refine czI_of zk.1 (plainFor_of_name (by decide)) (Nat.le_of_ble_eq_true rfl) hw (σ, o) o h (fun X Y v => EndI X Y cX8_closedCount rm_X8_closedCount .int (σ, v)) (fun _ _ h => h) (fun X A Q hZ hX C => ?_)
  replace C : Cx X (Yc cy ad E G A 3 Q) cX8_closedCount RX8 (some .int) rm_X8_closedCount (tyc cy) := C
  replace hZ : Zx Z X (Yc cy ad E G A 3 Q) := hZ
  show T X (Yc cy ad E G A 3 Q) (fun v => EndI X (Yc cy ad E G A 3 Q) cX8_closedCount rm_X8_closedCount .int (σ, v)) 0 0 0 [(0, .ref (ad r0))] [] σ (f_X8_closedCount N σ r0)
  unfold f_X8_closedCount
  refine T_iconst (pc := 0) C dX8_closedCount_0 ?_
  refine T_istore_n (pc := 1) (L' := [(1, vi 0), (0, .ref (ad r0))]) C dX8_closedCount_1 rfl (Nat.le_of_ble_eq_true rfl) rfl ?_
  refine T_iconst (pc := 2) C dX8_closedCount_2 ?_
  refine T_istore_n (pc := 3) (L' := [(2, vi 0), (1, vi 0), (0, .ref (ad r0))]) C dX8_closedCount_3 rfl (Nat.le_of_ble_eq_true rfl) rfl ?_
  refine T_sub (L' := [(0, .ref (ad r0)), (1, vi 0), (2, vi 0)]) [2, 1, 0] rfl ?_
  refine T_loopE (lp_X8_closedCount_4 zk hZ C σ r0 k0 N 0 0 (rngL rfl) (rngL rfl)) (fun q19 hq19 => ?_)
  refine T_iload_n (pc := 30) C dX8_closedCount_30 rfl 0 rfl ?_
  exact T_iret (pc := 31) q19 (fun h9 => h9) hq19 (nar_I _) (by decide) dX8_closedCount_31

abbrev rm_X8_isLineBefore : Room := ⟨1, 0, 0, 23⟩
theorem cm_X8_isLineBefore : cmV yX8_isLineBefore cX8_isLineBefore 5 (some .boolean) 2 := ⟨kc_69, kc_147, ⟨by decide +kernel, by decide +kernel, by decide +kernel⟩, kc_402, kc_403⟩
def f_X8_isLineBefore (N : Nat) (σ : Sm) (r0 : Nat) (x1 : Int) (x2 : Int) : Option Int :=
  (f_X11_countOfLine N σ (r0 + 5) x1).bind fun v1 => (f_X11_countOfLine N σ (r0 + 5) x2).bind fun v2 => bl (v1 - v2) fun v3 => if rng v3 then (if v3 = 0 then if 0 ≤ x1 ∧ x1 < 5 then if 0 ≤ x2 ∧ x2 < 5 then bl ((σ (r0 + 23 + 2 * x1.toNat) 4) - (σ (r0 + 23 + 2 * x2.toNat) 4)) fun v12 => if rng v12 then (if v12 = 0 then (if x2 ≤ x1 then some 0 else some 1) else (if 0 ≤ v12 then some 0 else some 1)) else none else none else none else (if v3 ≤ 0 then some 0 else some 1)) else none
theorem ct_X8_isLineBefore {l : Launch} {cy : Nat → ClassId} {ad : Nat → Nat} {E : Nat → Nat → Nat} {G : va_G} {Z : vZ} (zk : Zk Z E) (N : Nat) (σ : Sm) (r0 : Nat) (x1 : Int) (x2 : Int) (k0 : kd r0 = 8) (h1 : rng x1) (h2 : rng x2) (hw : wfc σ) (o : Int) (h : f_X8_isLineBefore N σ r0 x1 x2 = some o) : CzI Z l yX8_isLineBefore cX8_isLineBefore 5 (some .boolean) rm_X8_isLineBefore (wlc cy ad E) wfc G (tyc cy) [.ref (ad r0), vi x1, vi x2] σ σ o := by
  refine czI_of zk.1 (plainFor_of_name (by decide)) (Nat.le_of_ble_eq_true rfl) hw (σ, o) o h (fun X Y v => EndI X Y cX8_isLineBefore rm_X8_isLineBefore .boolean (σ, v)) (fun _ _ h => h) (fun X A Q hZ hX C => ?_)
  replace C : Cx X (Yc cy ad E G A 5 Q) cX8_isLineBefore RX8 (some .boolean) rm_X8_isLineBefore (tyc cy) := C
  replace hZ : Zx Z X (Yc cy ad E G A 5 Q) := hZ
  show T X (Yc cy ad E G A 5 Q) (fun v => EndI X (Yc cy ad E G A 5 Q) cX8_isLineBefore rm_X8_isLineBefore .boolean (σ, v)) 0 0 0 [(0, .ref (ad r0)), (1, vi x1), (2, vi x2)] [] σ (f_X8_isLineBefore N σ r0 x1 x2)
  unfold f_X8_isLineBefore
  refine T_aload_n (pc := 0) C dX8_isLineBefore_0 rfl 0 rfl ?_
  refine Tc_getr (pc := 1) C r0 8 9 10 k0 (by decide) (fun _ => rfl) rfl inX8 (by decide) (v := .ref (ad (r0 + 5))) rfl kc_270 dX8_isLineBefore_1 ?_
  refine T_iload_n (pc := 4) C dX8_isLineBefore_4 rfl 1 rfl ?_
  refine T_czVip (pc := 5) zk.1 hZ C [vi x1] [] (fun o h9 hw => ct_X11_countOfLine zk N σ (r0 + 5) x1 (kd_8 k0).2.2.2.2.1 h1 hw o h9) kc_335 cm_X11_countOfLine (rcc (kd_8 k0).2.2.2.2.1 (by decide) (fun _ => rfl) rfl) rfl rfl (Nat.le_of_ble_eq_true rfl) (by decide) (a' := 0) (b' := 0) ⟨rfl, rfl⟩ dX8_isLineBefore_5 (fun v1 hv1 => ?_)
  refine T_aload_n (pc := 8) C dX8_isLineBefore_8 rfl 0 rfl ?_
  refine Tc_getr (pc := 9) C r0 8 9 10 k0 (by decide) (fun _ => rfl) rfl inX8 (by decide) (v := .ref (ad (r0 + 5))) rfl kc_270 dX8_isLineBefore_9 ?_
  refine T_iload_n (pc := 12) C dX8_isLineBefore_12 rfl 2 rfl ?_
  refine T_czVip (pc := 13) zk.1 hZ C [vi x2] [vi v1] (fun o h9 hw => ct_X11_countOfLine zk N σ (r0 + 5) x2 (kd_8 k0).2.2.2.2.1 h2 hw o h9) kc_335 cm_X11_countOfLine (rcc (kd_8 k0).2.2.2.2.1 (by decide) (fun _ => rfl) rfl) rfl rfl (Nat.le_of_ble_eq_true rfl) (by decide) (a' := 0) (b' := 0) ⟨rfl, rfl⟩ dX8_isLineBefore_13 (fun v2 hv2 => ?_)
  refine T_isub (pc := 16) C dX8_isLineBefore_16 ?_
  refine T_blN (fun v3 => ?_)
  refine T_istore_n (pc := 17) (L' := [(3, vi v3), (0, .ref (ad r0)), (1, vi x1), (2, vi x2)]) C dX8_isLineBefore_17 rfl (Nat.le_of_ble_eq_true rfl) rfl ?_
  refine T_iload_n (pc := 18) C dX8_isLineBefore_18 rfl 0 rfl ?_
  refine T_guard (fun g4 => ?_)
  refine T_if_eq (pc := 19) C 32 dX8_isLineBefore_19 rfl g4 (fun c5 => ?_) (fun c5 => ?_)
  · refine T_aload_n (pc := 32) C dX8_isLineBefore_32 rfl 1 rfl ?_
    refine Tc_getr (pc := 33) C r0 8 8 10 k0 (by decide) (fun _ => rfl) rfl inX8 (by decide) (v := .ref (ad (r0 + 4))) rfl kc_268 dX8_isLineBefore_33 ?_
    refine T_iload_n (pc := 36) C dX8_isLineBefore_36 rfl 2 rfl ?_
    refine T_guard (fun g6 => ?_)
    refine Tc_ald27 (pc := 37) C r0 k0 g6 dX8_isLineBefore_37 (fun y7 => ?_)
    refine Tc_geti (pc := 38) C (r0 + 23 + 2 * x1.toNat) 7 4 8 y7 (by decide) (fun _ => rfl) rfl inX7 (by decide) rfl kc_356 dX8_isLineBefore_38 (fun z8 => ?_)
    refine T_aload_n (pc := 41) C dX8_isLineBefore_41 rfl 1 rfl ?_
    refine Tc_getr (pc := 42) C r0 8 8 10 k0 (by decide) (fun _ => rfl) rfl inX8 (by decide) (v := .ref (ad (r0 + 4))) rfl kc_268 dX8_isLineBefore_42 ?_
    refine T_iload_n (pc := 45) C dX8_isLineBefore_45 rfl 3 rfl ?_
    refine T_guard (fun g9 => ?_)
    refine Tc_ald27 (pc := 46) C r0 k0 g9 dX8_isLineBefore_46 (fun y10 => ?_)
    refine Tc_geti (pc := 47) C (r0 + 23 + 2 * x2.toNat) 7 4 8 y10 (by decide) (fun _ => rfl) rfl inX7 (by decide) rfl kc_356 dX8_isLineBefore_47 (fun z11 => ?_)
    refine T_isub (pc := 50) C dX8_isLineBefore_50 ?_
    refine T_blN (fun v12 => ?_)
    refine T_istore (pc := 51) (L' := [(4, vi v12), (3, vi v3), (0, .ref (ad r0)), (1, vi x1), (2, vi x2)]) C dX8_isLineBefore_51 (Nat.le_of_ble_eq_true rfl) rfl ?_
    refine T_iload (pc := 53) C dX8_isLineBefore_53 0 rfl ?_
    refine T_guard (fun g13 => ?_)
    refine T_if_eq (pc := 55) C 71 dX8_isLineBefore_55 rfl g13 (fun c14 => ?_) (fun c14 => ?_)
    · refine T_iload_n (pc := 71) C dX8_isLineBefore_71 rfl 3 rfl ?_
      refine T_iload_n (pc := 72) C dX8_isLineBefore_72 rfl 4 rfl ?_
      refine T_icmp_ge (pc := 73) C 80 dX8_isLineBefore_73 rfl h1 h2 (fun c15 => ?_) (fun c15 => ?_)
      · refine T_iconst (pc := 80) C dX8_isLineBefore_80 ?_
        exact T_iret (pc := 81) 0 (fun h9 => h9) (rngL rfl) (nar_Z (Or.inl rfl)) (by decide) dX8_isLineBefore_81
      · refine T_iconst (pc := 76) C dX8_isLineBefore_76 ?_
        refine T_goto (pc := 77) C 81 dX8_isLineBefore_77 rfl ?_
        exact T_iret (pc := 81) 1 (fun h9 => h9) (rngL rfl) (nar_Z (Or.inr rfl)) (by decide) dX8_isLineBefore_81
    · refine T_iload (pc := 58) C dX8_isLineBefore_58 0 rfl ?_
      refine T_if_ge (pc := 60) C 67 dX8_isLineBefore_60 rfl g13 (fun c16 => ?_) (fun c16 => ?_)
      · refine T_iconst (pc := 67) C dX8_isLineBefore_67 ?_
        refine T_goto (pc := 68) C 81 dX8_isLineBefore_68 rfl ?_
        exact T_iret (pc := 81) 0 (fun h9 => h9) (rngL rfl) (nar_Z (Or.inl rfl)) (by decide) dX8_isLineBefore_81
      · refine T_iconst (pc := 63) C dX8_isLineBefore_63 ?_
        refine T_goto (pc := 64) C 81 dX8_isLineBefore_64 rfl ?_
        exact T_iret (pc := 81) 1 (fun h9 => h9) (rngL rfl) (nar_Z (Or.inr rfl)) (by decide) dX8_isLineBefore_81
  · refine T_iload_n (pc := 22) C dX8_isLineBefore_22 rfl 0 rfl ?_
    refine T_if_le (pc := 23) C 30 dX8_isLineBefore_23 rfl g4 (fun c17 => ?_) (fun c17 => ?_)
    · refine T_iconst (pc := 30) C dX8_isLineBefore_30 ?_
      exact T_iret (pc := 31) 0 (fun h9 => h9) (rngL rfl) (nar_Z (Or.inl rfl)) (by decide) dX8_isLineBefore_31
    · refine T_iconst (pc := 26) C dX8_isLineBefore_26 ?_
      refine T_goto (pc := 27) C 31 dX8_isLineBefore_27 rfl ?_
      exact T_iret (pc := 31) 1 (fun h9 => h9) (rngL rfl) (nar_Z (Or.inr rfl)) (by decide) dX8_isLineBefore_31

abbrev rm_X8_lineOfRank : Room := ⟨2, 0, 0, 47⟩
theorem cm_X8_lineOfRank : cmV yX8_lineOfRank cX8_lineOfRank 5 (some .int) 1 := ⟨kc_68, kc_147, ⟨by decide +kernel, by decide +kernel, by decide +kernel⟩, kc_405, kc_406⟩
def f_X8_lineOfRank_15 (N : Nat) (σ : Sm) (r0 : Nat) (x1 : Int) (x2 : Int) : Nat → Int → Int → Option (Int)
  | 0, _, _ => none
  | n + 1, x3, x4 => (if (σ r0 7) ≤ x4 then some x3 else (f_X8_isLineBefore N σ r0 x4 x2).bind fun v34 => (if v34 = 0 then f_X8_lineOfRank_15 N σ r0 x1 x2 n x3 (x4 + 1) else if rng (x3 + 1) then f_X8_lineOfRank_15 N σ r0 x1 x2 n (x3 + 1) (x4 + 1) else none))
theorem lp_X8_lineOfRank_15 {X : vjX} {A : Nat → Prop} {Q : State → Prop} {cy : Nat → ClassId} {ad : Nat → Nat} {E : Nat → Nat → Nat} {G : va_G} {Z : vZ} (zk : Zk Z E) (hZ : Zx Z X (Yc cy ad E G A 5 Q)) (C : Cx X (Yc cy ad E G A 5 Q) cX8_lineOfRank RX8 (some .int) rm_X8_lineOfRank (tyc cy)) (N : Nat) (σ : Sm) (r0 : Nat) (k0 : kd r0 = 8) (x1 : Int) (x2 : Int) (h1 : rng x1) (h2 : rng x2) : ∀ (n : Nat) (x3 : Int) (x4 : Int) (h3 : rng x3) (h4 : rng x4), T X (Yc cy ad E G A 5 Q) (fun (q : Int) => rng q → J X (Yc cy ad E G A 5 Q) 0 0 43 [(0, .ref (ad r0)), (1, vi x1), (2, vi x2), (3, vi q)] [] σ) 0 0 15 [(0, .ref (ad r0)), (1, vi x1), (2, vi x2), (3, vi x3), (4, vi x4)] [] σ (f_X8_lineOfRank_15 N σ r0 x1 x2 n x3 x4) := by
  intro n
  induction n with
  | zero => intro x3 x4 h3 h4; exact T_none
  | succ n ih =>
    intro x3 x4 h3 h4
    rw [f_X8_lineOfRank_15]
    refine T_iload (pc := 15) C dX8_lineOfRank_15 4 rfl ?_
    refine T_aload_n (pc := 17) C dX8_lineOfRank_17 rfl 0 rfl ?_
    refine Tc_geti (pc := 18) C r0 8 7 10 k0 (by decide) (fun _ => rfl) rfl inX8 (by decide) rfl kc_267 dX8_lineOfRank_18 (fun z32 => ?_)
    refine T_icmp_ge (pc := 21) C 43 dX8_lineOfRank_21 rfl h4 z32.1 (fun c33 => ?_) (fun c33 => ?_)
    · refine T_sub (L' := [(0, .ref (ad r0)), (1, vi x1), (2, vi x2), (3, vi x3)]) [0, 1, 2, 3] rfl ?_
      exact T_exit (fun h9 => h9 h3)
    · refine T_aload_n (pc := 24) C dX8_lineOfRank_24 rfl 0 rfl ?_
      refine T_iload (pc := 25) C dX8_lineOfRank_25 4 rfl ?_
      refine T_iload_n (pc := 27) C dX8_lineOfRank_27 rfl 2 rfl ?_
      refine T_czVip (pc := 28) zk.1 hZ C [vi x4, vi x2] [] (fun o h9 hw => ct_X8_isLineBefore zk N σ r0 x4 x2 k0 h4 h2 hw o h9) kc_404 cm_X8_isLineBefore (rcc k0 (by decide) (fun _ => rfl) rfl) rfl rfl (Nat.le_of_ble_eq_true rfl) (by decide) (a' := 0) (b' := 0) ⟨rfl, rfl⟩ dX8_lineOfRank_28 (fun v34 hv34 => ?_)
      refine T_if_eq (pc := 31) C 37 dX8_lineOfRank_31 rfl hv34.1 (fun c35 => ?_) (fun c35 => ?_)
      · refine T_iinc (pc := 37) (L' := [(4, vi (x4 + 1)), (0, .ref (ad r0)), (1, vi x1), (2, vi x2), (3, vi x3)]) C dX8_lineOfRank_37 (Nat.le_of_ble_eq_true rfl) 4 rfl rfl ?_
        refine T_goto (pc := 40) C 15 dX8_lineOfRank_40 rfl ?_
        refine T_sub (L' := [(0, .ref (ad r0)), (1, vi x1), (2, vi x2), (3, vi x3), (4, vi (x4 + 1))]) [1, 2, 3, 4, 0] rfl ?_
        exact ih x3 (x4 + 1) h3 (rng_inc c33 h4 z32.1)
      · refine T_iinc (pc := 34) (L' := [(3, vi (x3 + 1)), (0, .ref (ad r0)), (1, vi x1), (2, vi x2), (4, vi x4)]) C dX8_lineOfRank_34 (Nat.le_of_ble_eq_true rfl) 3 rfl rfl ?_
        refine T_iinc (pc := 37) (L' := [(4, vi (x4 + 1)), (3, vi (x3 + 1)), (0, .ref (ad r0)), (1, vi x1), (2, vi x2)]) C dX8_lineOfRank_37 (Nat.le_of_ble_eq_true rfl) 4 rfl rfl ?_
        refine T_goto (pc := 40) C 15 dX8_lineOfRank_40 rfl ?_
        refine T_sub (L' := [(0, .ref (ad r0)), (1, vi x1), (2, vi x2), (3, vi (x3 + 1)), (4, vi (x4 + 1))]) [2, 3, 4, 1, 0] rfl ?_
        refine T_guard (fun g36 => ?_)
        exact ih (x3 + 1) (x4 + 1) g36 (rng_inc c33 h4 z32.1)
def f_X8_lineOfRank_2 (N : Nat) (σ : Sm) (r0 : Nat) (x1 : Int) : Nat → Int → Option (Int ⊕ Unit)
  | 0, _ => none
  | n + 1, x2 => (if (σ r0 7) ≤ x2 then some (.inr ()) else (f_X8_lineOfRank_15 N σ r0 x1 x2 N 0 0).bind fun q37 => (if q37 = x1 then some (.inl x2) else f_X8_lineOfRank_2 N σ r0 x1 n (x2 + 1)))
theorem lp_X8_lineOfRank_2 {X : vjX} {A : Nat → Prop} {Q : State → Prop} {cy : Nat → ClassId} {ad : Nat → Nat} {E : Nat → Nat → Nat} {G : va_G} {Z : vZ} (zk : Zk Z E) (hZ : Zx Z X (Yc cy ad E G A 5 Q)) (C : Cx X (Yc cy ad E G A 5 Q) cX8_lineOfRank RX8 (some .int) rm_X8_lineOfRank (tyc cy)) (N : Nat) (σ : Sm) (r0 : Nat) (k0 : kd r0 = 8) (x1 : Int) (h1 : rng x1) : ∀ (n : Nat) (x2 : Int) (h2 : rng x2), T X (Yc cy ad E G A 5 Q) (Sum.elim (fun v => EndI X (Yc cy ad E G A 5 Q) cX8_lineOfRank rm_X8_lineOfRank .int (σ, v)) (fun (q : Unit) => True → J X (Yc cy ad E G A 5 Q) 0 0 56 [] [] σ)) 0 0 2 [(0, .ref (ad r0)), (1, vi x1), (2, vi x2)] [] σ (f_X8_lineOfRank_2 N σ r0 x1 n x2) := by
  intro n
  induction n with
  | zero => intro x2 h2; exact T_none
  | succ n ih =>
    intro x2 h2
    rw [f_X8_lineOfRank_2]
    refine T_iload_n (pc := 2) C dX8_lineOfRank_2 rfl 2 rfl ?_
    refine T_aload_n (pc := 3) C dX8_lineOfRank_3 rfl 0 rfl ?_
    refine Tc_geti (pc := 4) C r0 8 7 10 k0 (by decide) (fun _ => rfl) rfl inX8 (by decide) rfl kc_267 dX8_lineOfRank_4 (fun z20 => ?_)
    refine T_icmp_ge (pc := 7) C 56 dX8_lineOfRank_7 rfl h2 z20.1 (fun c21 => ?_) (fun c21 => ?_)
    · refine T_sub (L' := []) [] rfl ?_
      exact T_exit (fun h9 => h9 trivial)
    · refine T_iconst (pc := 10) C dX8_lineOfRank_10 ?_
      refine T_istore_n (pc := 11) (L' := [(3, vi 0), (0, .ref (ad r0)), (1, vi x1), (2, vi x2)]) C dX8_lineOfRank_11 rfl (Nat.le_of_ble_eq_true rfl) rfl ?_
      refine T_iconst (pc := 12) C dX8_lineOfRank_12 ?_
      refine T_istore (pc := 13) (L' := [(4, vi 0), (3, vi 0), (0, .ref (ad r0)), (1, vi x1), (2, vi x2)]) C dX8_lineOfRank_13 (Nat.le_of_ble_eq_true rfl) rfl ?_
      refine T_sub (L' := [(0, .ref (ad r0)), (1, vi x1), (2, vi x2), (3, vi 0), (4, vi 0)]) [2, 3, 4, 1, 0] rfl ?_
      refine T_loopE (lp_X8_lineOfRank_15 zk hZ C N σ r0 k0 x1 x2 h1 h2 N 0 0 (rngL rfl) (rngL rfl)) (fun q37 hq37 => ?_)
      refine T_iload_n (pc := 43) C dX8_lineOfRank_43 rfl 3 rfl ?_
      refine T_iload_n (pc := 44) C dX8_lineOfRank_44 rfl 1 rfl ?_
      refine T_icmp_ne (pc := 45) C 50 dX8_lineOfRank_45 rfl hq37 h1 (fun c38 => ?_) (fun c38 => ?_)
      · refine T_iinc (pc := 50) (L' := [(2, vi (x2 + 1)), (0, .ref (ad r0)), (1, vi x1), (3, vi q37)]) C dX8_lineOfRank_50 (Nat.le_of_ble_eq_true rfl) 2 rfl rfl ?_
        refine T_goto (pc := 53) C 2 dX8_lineOfRank_53 rfl ?_
        refine T_sub (L' := [(0, .ref (ad r0)), (1, vi x1), (2, vi (x2 + 1))]) [1, 2, 0] rfl ?_
        exact ih (x2 + 1) (rng_inc c21 h2 z20.1)
      · refine T_iload_n (pc := 48) C dX8_lineOfRank_48 rfl 2 rfl ?_
        exact T_iret (pc := 49) (Sum.inl x2) (fun h9 => h9) h2 (nar_I _) (by decide) dX8_lineOfRank_49
def f_X8_lineOfRank (N : Nat) (σ : Sm) (r0 : Nat) (x1 : Int) : Option Int :=
  (f_X8_lineOfRank_2 N σ r0 x1 N 0).bind (Sum.elim (fun v => some v) fun q39 => some (-1))
theorem ct_X8_lineOfRank {l : Launch} {cy : Nat → ClassId} {ad : Nat → Nat} {E : Nat → Nat → Nat} {G : va_G} {Z : vZ} (zk : Zk Z E) (N : Nat) (σ : Sm) (r0 : Nat) (x1 : Int) (k0 : kd r0 = 8) (h1 : rng x1) (hw : wfc σ) (o : Int) (h : f_X8_lineOfRank N σ r0 x1 = some o) : CzI Z l yX8_lineOfRank cX8_lineOfRank 5 (some .int) rm_X8_lineOfRank (wlc cy ad E) wfc G (tyc cy) [.ref (ad r0), vi x1] σ σ o := by
  refine czI_of zk.1 (plainFor_of_name (by decide)) (Nat.le_of_ble_eq_true rfl) hw (σ, o) o h (fun X Y v => EndI X Y cX8_lineOfRank rm_X8_lineOfRank .int (σ, v)) (fun _ _ h => h) (fun X A Q hZ hX C => ?_)
  replace C : Cx X (Yc cy ad E G A 5 Q) cX8_lineOfRank RX8 (some .int) rm_X8_lineOfRank (tyc cy) := C
  replace hZ : Zx Z X (Yc cy ad E G A 5 Q) := hZ
  show T X (Yc cy ad E G A 5 Q) (fun v => EndI X (Yc cy ad E G A 5 Q) cX8_lineOfRank rm_X8_lineOfRank .int (σ, v)) 0 0 0 [(0, .ref (ad r0)), (1, vi x1)] [] σ (f_X8_lineOfRank N σ r0 x1)
  unfold f_X8_lineOfRank
  refine T_iconst (pc := 0) C dX8_lineOfRank_0 ?_
  refine T_istore_n (pc := 1) (L' := [(2, vi 0), (0, .ref (ad r0)), (1, vi x1)]) C dX8_lineOfRank_1 rfl (Nat.le_of_ble_eq_true rfl) rfl ?_
  refine T_sub (L' := [(0, .ref (ad r0)), (1, vi x1), (2, vi 0)]) [1, 2, 0] rfl ?_
  refine T_loopS (g := fun v => v) (lp_X8_lineOfRank_2 zk hZ C N σ r0 k0 x1 h1 N 0 (rngL rfl)) (fun v h9 => h9) (fun q39 hq39 => ?_)
  refine T_iconst (pc := 56) C dX8_lineOfRank_56 ?_
  exact T_iret (pc := 57) (-1) (fun h9 => h9) (rngL rfl) (nar_I _) (by decide) dX8_lineOfRank_57

abbrev rm_X8_ringsAt : Room := ⟨1, 0, 0, 22⟩
theorem cm_X8_ringsAt : cmV yX8_ringsAt cX8_ringsAt 4 (some .int) 1 := ⟨kc_72, kc_147, ⟨by decide +kernel, by decide +kernel, by decide +kernel⟩, kc_407, kc_408⟩
def f_X8_ringsAt_4 (N : Nat) (σ : Sm) (r0 : Nat) (x1 : Int) : Nat → Int → Int → Option (Int)
  | 0, _, _ => none
  | n + 1, x2, x3 => (if (σ r0 7) ≤ x3 then some x2 else if 0 ≤ x3 ∧ x3 < 5 then (f_X7_placeOf N σ (r0 + 23 + 2 * x3.toNat) x1).bind fun v19 => (if v19 = (-1) then f_X8_ringsAt_4 N σ r0 x1 n x2 (x3 + 1) else if rng (x2 + 1) then f_X8_ringsAt_4 N σ r0 x1 n (x2 + 1) (x3 + 1) else none) else none)
theorem lp_X8_ringsAt_4 {X : vjX} {A : Nat → Prop} {Q : State → Prop} {cy : Nat → ClassId} {ad : Nat → Nat} {E : Nat → Nat → Nat} {G : va_G} {Z : vZ} (zk : Zk Z E) (hZ : Zx Z X (Yc cy ad E G A 4 Q)) (C : Cx X (Yc cy ad E G A 4 Q) cX8_ringsAt RX8 (some .int) rm_X8_ringsAt (tyc cy)) (N : Nat) (σ : Sm) (r0 : Nat) (k0 : kd r0 = 8) (x1 : Int) (h1 : rng x1) : ∀ (n : Nat) (x2 : Int) (x3 : Int) (h2 : rng x2) (h3 : rng x3), T X (Yc cy ad E G A 4 Q) (fun (q : Int) => rng q → J X (Yc cy ad E G A 4 Q) 0 0 35 [(2, vi q)] [] σ) 0 0 4 [(0, .ref (ad r0)), (1, vi x1), (2, vi x2), (3, vi x3)] [] σ (f_X8_ringsAt_4 N σ r0 x1 n x2 x3) := by
  intro n
  induction n with
  | zero => intro x2 x3 h2 h3; exact T_none
  | succ n ih =>
    intro x2 x3 h2 h3
    rw [f_X8_ringsAt_4]
    refine T_iload_n (pc := 4) C dX8_ringsAt_4 rfl 3 rfl ?_
    refine T_aload_n (pc := 5) C dX8_ringsAt_5 rfl 0 rfl ?_
    refine Tc_geti (pc := 6) C r0 8 7 10 k0 (by decide) (fun _ => rfl) rfl inX8 (by decide) rfl kc_267 dX8_ringsAt_6 (fun z15 => ?_)
    refine T_icmp_ge (pc := 9) C 35 dX8_ringsAt_9 rfl h3 z15.1 (fun c16 => ?_) (fun c16 => ?_)
    · refine T_sub (L' := [(2, vi x2)]) [2] rfl ?_
      exact T_exit (fun h9 => h9 h2)
    · refine T_aload_n (pc := 12) C dX8_ringsAt_12 rfl 0 rfl ?_
      refine Tc_getr (pc := 13) C r0 8 8 10 k0 (by decide) (fun _ => rfl) rfl inX8 (by decide) (v := .ref (ad (r0 + 4))) rfl kc_268 dX8_ringsAt_13 ?_
      refine T_iload_n (pc := 16) C dX8_ringsAt_16 rfl 3 rfl ?_
      refine T_guard (fun g17 => ?_)
      refine Tc_ald27 (pc := 17) C r0 k0 g17 dX8_ringsAt_17 (fun y18 => ?_)
      refine T_iload_n (pc := 18) C dX8_ringsAt_18 rfl 1 rfl ?_
      refine T_czVip (pc := 19) zk.1 hZ C [vi x1] [] (fun o h9 hw => ct_X7_placeOf zk N σ (r0 + 23 + 2 * x3.toNat) x1 y18 h1 hw o h9) kc_336 cm_X7_placeOf (rcc y18 (by decide) (fun _ => rfl) rfl) rfl rfl (Nat.le_of_ble_eq_true rfl) (by decide) (a' := 0) (b' := 0) ⟨rfl, rfl⟩ dX8_ringsAt_19 (fun v19 hv19 => ?_)
      refine T_iconst (pc := 22) C dX8_ringsAt_22 ?_
      refine T_icmp_eq (pc := 23) C 29 dX8_ringsAt_23 rfl hv19.1 (rngL rfl) (fun c20 => ?_) (fun c20 => ?_)
      · refine T_iinc (pc := 29) (L' := [(3, vi (x3 + 1)), (0, .ref (ad r0)), (1, vi x1), (2, vi x2)]) C dX8_ringsAt_29 (Nat.le_of_ble_eq_true rfl) 3 rfl rfl ?_
        refine T_goto (pc := 32) C 4 dX8_ringsAt_32 rfl ?_
        refine T_sub (L' := [(0, .ref (ad r0)), (1, vi x1), (2, vi x2), (3, vi (x3 + 1))]) [1, 2, 3, 0] rfl ?_
        exact ih x2 (x3 + 1) h2 (rng_inc c16 h3 z15.1)
      · refine T_iinc (pc := 26) (L' := [(2, vi (x2 + 1)), (0, .ref (ad r0)), (1, vi x1), (3, vi x3)]) C dX8_ringsAt_26 (Nat.le_of_ble_eq_true rfl) 2 rfl rfl ?_
        refine T_iinc (pc := 29) (L' := [(3, vi (x3 + 1)), (2, vi (x2 + 1)), (0, .ref (ad r0)), (1, vi x1)]) C dX8_ringsAt_29 (Nat.le_of_ble_eq_true rfl) 3 rfl rfl ?_
        refine T_goto (pc := 32) C 4 dX8_ringsAt_32 rfl ?_
        refine T_sub (L' := [(0, .ref (ad r0)), (1, vi x1), (2, vi (x2 + 1)), (3, vi (x3 + 1))]) [2, 3, 1, 0] rfl ?_
        refine T_guard (fun g21 => ?_)
        exact ih (x2 + 1) (x3 + 1) g21 (rng_inc c16 h3 z15.1)
def f_X8_ringsAt (N : Nat) (σ : Sm) (r0 : Nat) (x1 : Int) : Option Int :=
  (f_X8_ringsAt_4 N σ r0 x1 N 0 0).bind fun q22 => some q22
theorem ct_X8_ringsAt {l : Launch} {cy : Nat → ClassId} {ad : Nat → Nat} {E : Nat → Nat → Nat} {G : va_G} {Z : vZ} (zk : Zk Z E) (N : Nat) (σ : Sm) (r0 : Nat) (x1 : Int) (k0 : kd r0 = 8) (h1 : rng x1) (hw : wfc σ) (o : Int) (h : f_X8_ringsAt N σ r0 x1 = some o) : CzI Z l yX8_ringsAt cX8_ringsAt 4 (some .int) rm_X8_ringsAt (wlc cy ad E) wfc G (tyc cy) [.ref (ad r0), vi x1] σ σ o := by
  refine czI_of zk.1 (plainFor_of_name (by decide)) (Nat.le_of_ble_eq_true rfl) hw (σ, o) o h (fun X Y v => EndI X Y cX8_ringsAt rm_X8_ringsAt .int (σ, v)) (fun _ _ h => h) (fun X A Q hZ hX C => ?_)
  replace C : Cx X (Yc cy ad E G A 4 Q) cX8_ringsAt RX8 (some .int) rm_X8_ringsAt (tyc cy) := C
  replace hZ : Zx Z X (Yc cy ad E G A 4 Q) := hZ
  show T X (Yc cy ad E G A 4 Q) (fun v => EndI X (Yc cy ad E G A 4 Q) cX8_ringsAt rm_X8_ringsAt .int (σ, v)) 0 0 0 [(0, .ref (ad r0)), (1, vi x1)] [] σ (f_X8_ringsAt N σ r0 x1)
  unfold f_X8_ringsAt
  refine T_iconst (pc := 0) C dX8_ringsAt_0 ?_
  refine T_istore_n (pc := 1) (L' := [(2, vi 0), (0, .ref (ad r0)), (1, vi x1)]) C dX8_ringsAt_1 rfl (Nat.le_of_ble_eq_true rfl) rfl ?_
  refine T_iconst (pc := 2) C dX8_ringsAt_2 ?_
  refine T_istore_n (pc := 3) (L' := [(3, vi 0), (2, vi 0), (0, .ref (ad r0)), (1, vi x1)]) C dX8_ringsAt_3 rfl (Nat.le_of_ble_eq_true rfl) rfl ?_
  refine T_sub (L' := [(0, .ref (ad r0)), (1, vi x1), (2, vi 0), (3, vi 0)]) [2, 3, 1, 0] rfl ?_
  refine T_loopE (lp_X8_ringsAt_4 zk hZ C N σ r0 k0 x1 h1 N 0 0 (rngL rfl) (rngL rfl)) (fun q22 hq22 => ?_)
  refine T_iload_n (pc := 35) C dX8_ringsAt_35 rfl 0 rfl ?_
  exact T_iret (pc := 36) q22 (fun h9 => h9) hq22 (nar_I _) (by decide) dX8_ringsAt_36

abbrev rm_X8_walksAt : Room := ⟨1, 0, 0, 22⟩
theorem cm_X8_walksAt : cmV yX8_walksAt cX8_walksAt 4 (some .int) 1 := ⟨kc_73, kc_147, ⟨by decide +kernel, by decide +kernel, by decide +kernel⟩, kc_409, kc_410⟩
def f_X8_walksAt_4 (σ : Sm) (r0 : Nat) (x1 : Int) : Nat → Int → Int → Option (Int)
  | 0, _, _ => none
  | n + 1, x2, x3 => (if (σ r0 2) ≤ x3 then some x2 else (f_X8_walkBetween σ r0 x1 x3).bind fun v13 => (if v13 ≤ 0 then f_X8_walksAt_4 σ r0 x1 n x2 (x3 + 1) else if rng (x2 + 1) then f_X8_walksAt_4 σ r0 x1 n (x2 + 1) (x3 + 1) else none))
theorem lp_X8_walksAt_4 {X : vjX} {A : Nat → Prop} {Q : State → Prop} {cy : Nat → ClassId} {ad : Nat → Nat} {E : Nat → Nat → Nat} {G : va_G} {Z : vZ} (zk : Zk Z E) (hZ : Zx Z X (Yc cy ad E G A 4 Q)) (C : Cx X (Yc cy ad E G A 4 Q) cX8_walksAt RX8 (some .int) rm_X8_walksAt (tyc cy)) (σ : Sm) (r0 : Nat) (k0 : kd r0 = 8) (x1 : Int) (h1 : rng x1) : ∀ (n : Nat) (x2 : Int) (x3 : Int) (h2 : rng x2) (h3 : rng x3), T X (Yc cy ad E G A 4 Q) (fun (q : Int) => rng q → J X (Yc cy ad E G A 4 Q) 0 0 30 [(2, vi q)] [] σ) 0 0 4 [(0, .ref (ad r0)), (1, vi x1), (2, vi x2), (3, vi x3)] [] σ (f_X8_walksAt_4 σ r0 x1 n x2 x3) := by
  intro n
  induction n with
  | zero => intro x2 x3 h2 h3; exact T_none
  | succ n ih =>
    intro x2 x3 h2 h3
    rw [f_X8_walksAt_4]
    refine T_iload_n (pc := 4) C dX8_walksAt_4 rfl 3 rfl ?_
    refine T_aload_n (pc := 5) C dX8_walksAt_5 rfl 0 rfl ?_
    refine Tc_geti (pc := 6) C r0 8 2 10 k0 (by decide) (fun _ => rfl) rfl inX8 (by decide) rfl kc_263 dX8_walksAt_6 (fun z11 => ?_)
    refine T_icmp_ge (pc := 9) C 30 dX8_walksAt_9 rfl h3 z11.1 (fun c12 => ?_) (fun c12 => ?_)
    · refine T_sub (L' := [(2, vi x2)]) [2] rfl ?_
      exact T_exit (fun h9 => h9 h2)
    · refine T_aload_n (pc := 12) C dX8_walksAt_12 rfl 0 rfl ?_
      refine T_iload_n (pc := 13) C dX8_walksAt_13 rfl 1 rfl ?_
      refine T_iload_n (pc := 14) C dX8_walksAt_14 rfl 3 rfl ?_
      refine T_czVip (pc := 15) zk.1 hZ C [vi x1, vi x3] [] (fun o h9 hw => ct_X8_walkBetween zk σ r0 x1 x3 k0 h1 h3 hw o h9) kc_150 cm_X8_walkBetween (rcc k0 (by decide) (fun _ => rfl) rfl) rfl rfl (Nat.le_of_ble_eq_true rfl) (by decide) (a' := 0) (b' := 0) ⟨rfl, rfl⟩ dX8_walksAt_15 (fun v13 hv13 => ?_)
      refine T_if_le (pc := 18) C 24 dX8_walksAt_18 rfl hv13.1 (fun c14 => ?_) (fun c14 => ?_)
      · refine T_iinc (pc := 24) (L' := [(3, vi (x3 + 1)), (0, .ref (ad r0)), (1, vi x1), (2, vi x2)]) C dX8_walksAt_24 (Nat.le_of_ble_eq_true rfl) 3 rfl rfl ?_
        refine T_goto (pc := 27) C 4 dX8_walksAt_27 rfl ?_
        refine T_sub (L' := [(0, .ref (ad r0)), (1, vi x1), (2, vi x2), (3, vi (x3 + 1))]) [1, 2, 3, 0] rfl ?_
        exact ih x2 (x3 + 1) h2 (rng_inc c12 h3 z11.1)
      · refine T_iinc (pc := 21) (L' := [(2, vi (x2 + 1)), (0, .ref (ad r0)), (1, vi x1), (3, vi x3)]) C dX8_walksAt_21 (Nat.le_of_ble_eq_true rfl) 2 rfl rfl ?_
        refine T_iinc (pc := 24) (L' := [(3, vi (x3 + 1)), (2, vi (x2 + 1)), (0, .ref (ad r0)), (1, vi x1)]) C dX8_walksAt_24 (Nat.le_of_ble_eq_true rfl) 3 rfl rfl ?_
        refine T_goto (pc := 27) C 4 dX8_walksAt_27 rfl ?_
        refine T_sub (L' := [(0, .ref (ad r0)), (1, vi x1), (2, vi (x2 + 1)), (3, vi (x3 + 1))]) [2, 3, 1, 0] rfl ?_
        refine T_guard (fun g15 => ?_)
        exact ih (x2 + 1) (x3 + 1) g15 (rng_inc c12 h3 z11.1)
def f_X8_walksAt (N : Nat) (σ : Sm) (r0 : Nat) (x1 : Int) : Option Int :=
  (f_X8_walksAt_4 σ r0 x1 N 0 0).bind fun q16 => some q16
theorem ct_X8_walksAt {l : Launch} {cy : Nat → ClassId} {ad : Nat → Nat} {E : Nat → Nat → Nat} {G : va_G} {Z : vZ} (zk : Zk Z E) (N : Nat) (σ : Sm) (r0 : Nat) (x1 : Int) (k0 : kd r0 = 8) (h1 : rng x1) (hw : wfc σ) (o : Int) (h : f_X8_walksAt N σ r0 x1 = some o) : CzI Z l yX8_walksAt cX8_walksAt 4 (some .int) rm_X8_walksAt (wlc cy ad E) wfc G (tyc cy) [.ref (ad r0), vi x1] σ σ o := by
  refine czI_of zk.1 (plainFor_of_name (by decide)) (Nat.le_of_ble_eq_true rfl) hw (σ, o) o h (fun X Y v => EndI X Y cX8_walksAt rm_X8_walksAt .int (σ, v)) (fun _ _ h => h) (fun X A Q hZ hX C => ?_)
  replace C : Cx X (Yc cy ad E G A 4 Q) cX8_walksAt RX8 (some .int) rm_X8_walksAt (tyc cy) := C
  replace hZ : Zx Z X (Yc cy ad E G A 4 Q) := hZ
  show T X (Yc cy ad E G A 4 Q) (fun v => EndI X (Yc cy ad E G A 4 Q) cX8_walksAt rm_X8_walksAt .int (σ, v)) 0 0 0 [(0, .ref (ad r0)), (1, vi x1)] [] σ (f_X8_walksAt N σ r0 x1)
  unfold f_X8_walksAt
  refine T_iconst (pc := 0) C dX8_walksAt_0 ?_
  refine T_istore_n (pc := 1) (L' := [(2, vi 0), (0, .ref (ad r0)), (1, vi x1)]) C dX8_walksAt_1 rfl (Nat.le_of_ble_eq_true rfl) rfl ?_
  refine T_iconst (pc := 2) C dX8_walksAt_2 ?_
  refine T_istore_n (pc := 3) (L' := [(3, vi 0), (2, vi 0), (0, .ref (ad r0)), (1, vi x1)]) C dX8_walksAt_3 rfl (Nat.le_of_ble_eq_true rfl) rfl ?_
  refine T_sub (L' := [(0, .ref (ad r0)), (1, vi x1), (2, vi 0), (3, vi 0)]) [2, 3, 1, 0] rfl ?_
  refine T_loopE (lp_X8_walksAt_4 zk hZ C σ r0 k0 x1 h1 N 0 0 (rngL rfl) (rngL rfl)) (fun q16 hq16 => ?_)
  refine T_iload_n (pc := 30) C dX8_walksAt_30 rfl 0 rfl ?_
  exact T_iret (pc := 31) q16 (fun h9 => h9) hq16 (nar_I _) (by decide) dX8_walksAt_31

abbrev rm_X8_isStopBefore : Room := ⟨2, 0, 0, 45⟩
theorem cm_X8_isStopBefore : cmV yX8_isStopBefore cX8_isStopBefore 5 (some .boolean) 2 := ⟨kc_71, kc_147, ⟨by decide +kernel, by decide +kernel, by decide +kernel⟩, kc_413, kc_414⟩
def f_X8_isStopBefore (N : Nat) (σ : Sm) (r0 : Nat) (x1 : Int) (x2 : Int) : Option Int :=
  (f_X8_ringsAt N σ r0 x1).bind fun v1 => (f_X8_ringsAt N σ r0 x2).bind fun v2 => bl (v1 - v2) fun v3 => if rng v3 then (if v3 = 0 then (f_X8_walksAt N σ r0 x1).bind fun v6 => (f_X8_walksAt N σ r0 x2).bind fun v7 => bl (v6 - v7) fun v8 => if rng v8 then (if v8 = 0 then (if x2 ≤ x1 then some 0 else some 1) else (if v8 ≤ 0 then some 0 else some 1)) else none else (if v3 ≤ 0 then some 0 else some 1)) else none
theorem ct_X8_isStopBefore {l : Launch} {cy : Nat → ClassId} {ad : Nat → Nat} {E : Nat → Nat → Nat} {G : va_G} {Z : vZ} (zk : Zk Z E) (N : Nat) (σ : Sm) (r0 : Nat) (x1 : Int) (x2 : Int) (k0 : kd r0 = 8) (h1 : rng x1) (h2 : rng x2) (hw : wfc σ) (o : Int) (h : f_X8_isStopBefore N σ r0 x1 x2 = some o) : CzI Z l yX8_isStopBefore cX8_isStopBefore 5 (some .boolean) rm_X8_isStopBefore (wlc cy ad E) wfc G (tyc cy) [.ref (ad r0), vi x1, vi x2] σ σ o := by
  refine czI_of zk.1 (plainFor_of_name (by decide)) (Nat.le_of_ble_eq_true rfl) hw (σ, o) o h (fun X Y v => EndI X Y cX8_isStopBefore rm_X8_isStopBefore .boolean (σ, v)) (fun _ _ h => h) (fun X A Q hZ hX C => ?_)
  replace C : Cx X (Yc cy ad E G A 5 Q) cX8_isStopBefore RX8 (some .boolean) rm_X8_isStopBefore (tyc cy) := C
  replace hZ : Zx Z X (Yc cy ad E G A 5 Q) := hZ
  show T X (Yc cy ad E G A 5 Q) (fun v => EndI X (Yc cy ad E G A 5 Q) cX8_isStopBefore rm_X8_isStopBefore .boolean (σ, v)) 0 0 0 [(0, .ref (ad r0)), (1, vi x1), (2, vi x2)] [] σ (f_X8_isStopBefore N σ r0 x1 x2)
  unfold f_X8_isStopBefore
  refine T_aload_n (pc := 0) C dX8_isStopBefore_0 rfl 0 rfl ?_
  refine T_iload_n (pc := 1) C dX8_isStopBefore_1 rfl 1 rfl ?_
  refine T_czVip (pc := 2) zk.1 hZ C [vi x1] [] (fun o h9 hw => ct_X8_ringsAt zk N σ r0 x1 k0 h1 hw o h9) kc_411 cm_X8_ringsAt (rcc k0 (by decide) (fun _ => rfl) rfl) rfl rfl (Nat.le_of_ble_eq_true rfl) (by decide) (a' := 0) (b' := 0) ⟨rfl, rfl⟩ dX8_isStopBefore_2 (fun v1 hv1 => ?_)
  refine T_aload_n (pc := 5) C dX8_isStopBefore_5 rfl 0 rfl ?_
  refine T_iload_n (pc := 6) C dX8_isStopBefore_6 rfl 2 rfl ?_
  refine T_czVip (pc := 7) zk.1 hZ C [vi x2] [vi v1] (fun o h9 hw => ct_X8_ringsAt zk N σ r0 x2 k0 h2 hw o h9) kc_411 cm_X8_ringsAt (rcc k0 (by decide) (fun _ => rfl) rfl) rfl rfl (Nat.le_of_ble_eq_true rfl) (by decide) (a' := 0) (b' := 0) ⟨rfl, rfl⟩ dX8_isStopBefore_7 (fun v2 hv2 => ?_)
  refine T_isub (pc := 10) C dX8_isStopBefore_10 ?_
  refine T_blN (fun v3 => ?_)
  refine T_istore_n (pc := 11) (L' := [(3, vi v3), (0, .ref (ad r0)), (1, vi x1), (2, vi x2)]) C dX8_isStopBefore_11 rfl (Nat.le_of_ble_eq_true rfl) rfl ?_
  refine T_iload_n (pc := 12) C dX8_isStopBefore_12 rfl 0 rfl ?_
  refine T_guard (fun g4 => ?_)
  refine T_if_eq (pc := 13) C 26 dX8_isStopBefore_13 rfl g4 (fun c5 => ?_) (fun c5 => ?_)
  · refine T_aload_n (pc := 26) C dX8_isStopBefore_26 rfl 1 rfl ?_
    refine T_iload_n (pc := 27) C dX8_isStopBefore_27 rfl 2 rfl ?_
    refine T_czVip (pc := 28) zk.1 hZ C [vi x1] [] (fun o h9 hw => ct_X8_walksAt zk N σ r0 x1 k0 h1 hw o h9) kc_412 cm_X8_walksAt (rcc k0 (by decide) (fun _ => rfl) rfl) rfl rfl (Nat.le_of_ble_eq_true rfl) (by decide) (a' := 0) (b' := 0) ⟨rfl, rfl⟩ dX8_isStopBefore_28 (fun v6 hv6 => ?_)
    refine T_aload_n (pc := 31) C dX8_isStopBefore_31 rfl 1 rfl ?_
    refine T_iload_n (pc := 32) C dX8_isStopBefore_32 rfl 3 rfl ?_
    refine T_czVip (pc := 33) zk.1 hZ C [vi x2] [vi v6] (fun o h9 hw => ct_X8_walksAt zk N σ r0 x2 k0 h2 hw o h9) kc_412 cm_X8_walksAt (rcc k0 (by decide) (fun _ => rfl) rfl) rfl rfl (Nat.le_of_ble_eq_true rfl) (by decide) (a' := 0) (b' := 0) ⟨rfl, rfl⟩ dX8_isStopBefore_33 (fun v7 hv7 => ?_)
    refine T_isub (pc := 36) C dX8_isStopBefore_36 ?_
    refine T_blN (fun v8 => ?_)
    refine T_istore (pc := 37) (L' := [(4, vi v8), (3, vi v3), (0, .ref (ad r0)), (1, vi x1), (2, vi x2)]) C dX8_isStopBefore_37 (Nat.le_of_ble_eq_true rfl) rfl ?_
    refine T_iload (pc := 39) C dX8_isStopBefore_39 0 rfl ?_
    refine T_guard (fun g9 => ?_)
    refine T_if_eq (pc := 41) C 57 dX8_isStopBefore_41 rfl g9 (fun c10 => ?_) (fun c10 => ?_)
    · refine T_iload_n (pc := 57) C dX8_isStopBefore_57 rfl 3 rfl ?_
      refine T_iload_n (pc := 58) C dX8_isStopBefore_58 rfl 4 rfl ?_
      refine T_icmp_ge (pc := 59) C 66 dX8_isStopBefore_59 rfl h1 h2 (fun c11 => ?_) (fun c11 => ?_)
      · refine T_iconst (pc := 66) C dX8_isStopBefore_66 ?_
        exact T_iret (pc := 67) 0 (fun h9 => h9) (rngL rfl) (nar_Z (Or.inl rfl)) (by decide) dX8_isStopBefore_67
      · refine T_iconst (pc := 62) C dX8_isStopBefore_62 ?_
        refine T_goto (pc := 63) C 67 dX8_isStopBefore_63 rfl ?_
        exact T_iret (pc := 67) 1 (fun h9 => h9) (rngL rfl) (nar_Z (Or.inr rfl)) (by decide) dX8_isStopBefore_67
    · refine T_iload (pc := 44) C dX8_isStopBefore_44 0 rfl ?_
      refine T_if_le (pc := 46) C 53 dX8_isStopBefore_46 rfl g9 (fun c12 => ?_) (fun c12 => ?_)
      · refine T_iconst (pc := 53) C dX8_isStopBefore_53 ?_
        refine T_goto (pc := 54) C 67 dX8_isStopBefore_54 rfl ?_
        exact T_iret (pc := 67) 0 (fun h9 => h9) (rngL rfl) (nar_Z (Or.inl rfl)) (by decide) dX8_isStopBefore_67
      · refine T_iconst (pc := 49) C dX8_isStopBefore_49 ?_
        refine T_goto (pc := 50) C 67 dX8_isStopBefore_50 rfl ?_
        exact T_iret (pc := 67) 1 (fun h9 => h9) (rngL rfl) (nar_Z (Or.inr rfl)) (by decide) dX8_isStopBefore_67
  · refine T_iload_n (pc := 16) C dX8_isStopBefore_16 rfl 0 rfl ?_
    refine T_if_le (pc := 17) C 24 dX8_isStopBefore_17 rfl g4 (fun c13 => ?_) (fun c13 => ?_)
    · refine T_iconst (pc := 24) C dX8_isStopBefore_24 ?_
      exact T_iret (pc := 25) 0 (fun h9 => h9) (rngL rfl) (nar_Z (Or.inl rfl)) (by decide) dX8_isStopBefore_25
    · refine T_iconst (pc := 20) C dX8_isStopBefore_20 ?_
      refine T_goto (pc := 21) C 25 dX8_isStopBefore_21 rfl ?_
      exact T_iret (pc := 25) 1 (fun h9 => h9) (rngL rfl) (nar_Z (Or.inr rfl)) (by decide) dX8_isStopBefore_25

abbrev rm_X8_stopOfRank : Room := ⟨3, 0, 0, 69⟩
theorem cm_X8_stopOfRank : cmV yX8_stopOfRank cX8_stopOfRank 5 (some .int) 1 := ⟨kc_70, kc_147, ⟨by decide +kernel, by decide +kernel, by decide +kernel⟩, kc_416, kc_417⟩
def f_X8_stopOfRank_15 (N : Nat) (σ : Sm) (r0 : Nat) (x1 : Int) (x2 : Int) : Nat → Int → Int → Option (Int)
  | 0, _, _ => none
  | n + 1, x3, x4 => (if (σ r0 2) ≤ x4 then some x3 else (f_X8_isStopBefore N σ r0 x4 x2).bind fun v34 => (if v34 = 0 then f_X8_stopOfRank_15 N σ r0 x1 x2 n x3 (x4 + 1) else if rng (x3 + 1) then f_X8_stopOfRank_15 N σ r0 x1 x2 n (x3 + 1) (x4 + 1) else none))
theorem lp_X8_stopOfRank_15 {X : vjX} {A : Nat → Prop} {Q : State → Prop} {cy : Nat → ClassId} {ad : Nat → Nat} {E : Nat → Nat → Nat} {G : va_G} {Z : vZ} (zk : Zk Z E) (hZ : Zx Z X (Yc cy ad E G A 5 Q)) (C : Cx X (Yc cy ad E G A 5 Q) cX8_stopOfRank RX8 (some .int) rm_X8_stopOfRank (tyc cy)) (N : Nat) (σ : Sm) (r0 : Nat) (k0 : kd r0 = 8) (x1 : Int) (x2 : Int) (h1 : rng x1) (h2 : rng x2) : ∀ (n : Nat) (x3 : Int) (x4 : Int) (h3 : rng x3) (h4 : rng x4), T X (Yc cy ad E G A 5 Q) (fun (q : Int) => rng q → J X (Yc cy ad E G A 5 Q) 0 0 43 [(0, .ref (ad r0)), (1, vi x1), (2, vi x2), (3, vi q)] [] σ) 0 0 15 [(0, .ref (ad r0)), (1, vi x1), (2, vi x2), (3, vi x3), (4, vi x4)] [] σ (f_X8_stopOfRank_15 N σ r0 x1 x2 n x3 x4) := by
  intro n
  induction n with
  | zero => intro x3 x4 h3 h4; exact T_none
  | succ n ih =>
    intro x3 x4 h3 h4
    rw [f_X8_stopOfRank_15]
    refine T_iload (pc := 15) C dX8_stopOfRank_15 4 rfl ?_
    refine T_aload_n (pc := 17) C dX8_stopOfRank_17 rfl 0 rfl ?_
    refine Tc_geti (pc := 18) C r0 8 2 10 k0 (by decide) (fun _ => rfl) rfl inX8 (by decide) rfl kc_263 dX8_stopOfRank_18 (fun z32 => ?_)
    refine T_icmp_ge (pc := 21) C 43 dX8_stopOfRank_21 rfl h4 z32.1 (fun c33 => ?_) (fun c33 => ?_)
    · refine T_sub (L' := [(0, .ref (ad r0)), (1, vi x1), (2, vi x2), (3, vi x3)]) [0, 1, 2, 3] rfl ?_
      exact T_exit (fun h9 => h9 h3)
    · refine T_aload_n (pc := 24) C dX8_stopOfRank_24 rfl 0 rfl ?_
      refine T_iload (pc := 25) C dX8_stopOfRank_25 4 rfl ?_
      refine T_iload_n (pc := 27) C dX8_stopOfRank_27 rfl 2 rfl ?_
      refine T_czVip (pc := 28) zk.1 hZ C [vi x4, vi x2] [] (fun o h9 hw => ct_X8_isStopBefore zk N σ r0 x4 x2 k0 h4 h2 hw o h9) kc_415 cm_X8_isStopBefore (rcc k0 (by decide) (fun _ => rfl) rfl) rfl rfl (Nat.le_of_ble_eq_true rfl) (by decide) (a' := 0) (b' := 0) ⟨rfl, rfl⟩ dX8_stopOfRank_28 (fun v34 hv34 => ?_)
      refine T_if_eq (pc := 31) C 37 dX8_stopOfRank_31 rfl hv34.1 (fun c35 => ?_) (fun c35 => ?_)
      · refine T_iinc (pc := 37) (L' := [(4, vi (x4 + 1)), (0, .ref (ad r0)), (1, vi x1), (2, vi x2), (3, vi x3)]) C dX8_stopOfRank_37 (Nat.le_of_ble_eq_true rfl) 4 rfl rfl ?_
        refine T_goto (pc := 40) C 15 dX8_stopOfRank_40 rfl ?_
        refine T_sub (L' := [(0, .ref (ad r0)), (1, vi x1), (2, vi x2), (3, vi x3), (4, vi (x4 + 1))]) [1, 2, 3, 4, 0] rfl ?_
        exact ih x3 (x4 + 1) h3 (rng_inc c33 h4 z32.1)
      · refine T_iinc (pc := 34) (L' := [(3, vi (x3 + 1)), (0, .ref (ad r0)), (1, vi x1), (2, vi x2), (4, vi x4)]) C dX8_stopOfRank_34 (Nat.le_of_ble_eq_true rfl) 3 rfl rfl ?_
        refine T_iinc (pc := 37) (L' := [(4, vi (x4 + 1)), (3, vi (x3 + 1)), (0, .ref (ad r0)), (1, vi x1), (2, vi x2)]) C dX8_stopOfRank_37 (Nat.le_of_ble_eq_true rfl) 4 rfl rfl ?_
        refine T_goto (pc := 40) C 15 dX8_stopOfRank_40 rfl ?_
        refine T_sub (L' := [(0, .ref (ad r0)), (1, vi x1), (2, vi x2), (3, vi (x3 + 1)), (4, vi (x4 + 1))]) [2, 3, 4, 1, 0] rfl ?_
        refine T_guard (fun g36 => ?_)
        exact ih (x3 + 1) (x4 + 1) g36 (rng_inc c33 h4 z32.1)
def f_X8_stopOfRank_2 (N : Nat) (σ : Sm) (r0 : Nat) (x1 : Int) : Nat → Int → Option (Int ⊕ Unit)
  | 0, _ => none
  | n + 1, x2 => (if (σ r0 2) ≤ x2 then some (.inr ()) else (f_X8_stopOfRank_15 N σ r0 x1 x2 N 0 0).bind fun q37 => (if q37 = x1 then some (.inl x2) else f_X8_stopOfRank_2 N σ r0 x1 n (x2 + 1)))
theorem lp_X8_stopOfRank_2 {X : vjX} {A : Nat → Prop} {Q : State → Prop} {cy : Nat → ClassId} {ad : Nat → Nat} {E : Nat → Nat → Nat} {G : va_G} {Z : vZ} (zk : Zk Z E) (hZ : Zx Z X (Yc cy ad E G A 5 Q)) (C : Cx X (Yc cy ad E G A 5 Q) cX8_stopOfRank RX8 (some .int) rm_X8_stopOfRank (tyc cy)) (N : Nat) (σ : Sm) (r0 : Nat) (k0 : kd r0 = 8) (x1 : Int) (h1 : rng x1) : ∀ (n : Nat) (x2 : Int) (h2 : rng x2), T X (Yc cy ad E G A 5 Q) (Sum.elim (fun v => EndI X (Yc cy ad E G A 5 Q) cX8_stopOfRank rm_X8_stopOfRank .int (σ, v)) (fun (q : Unit) => True → J X (Yc cy ad E G A 5 Q) 0 0 56 [] [] σ)) 0 0 2 [(0, .ref (ad r0)), (1, vi x1), (2, vi x2)] [] σ (f_X8_stopOfRank_2 N σ r0 x1 n x2) := by
  intro n
  induction n with
  | zero => intro x2 h2; exact T_none
  | succ n ih =>
    intro x2 h2
    rw [f_X8_stopOfRank_2]
    refine T_iload_n (pc := 2) C dX8_stopOfRank_2 rfl 2 rfl ?_
    refine T_aload_n (pc := 3) C dX8_stopOfRank_3 rfl 0 rfl ?_
    refine Tc_geti (pc := 4) C r0 8 2 10 k0 (by decide) (fun _ => rfl) rfl inX8 (by decide) rfl kc_263 dX8_stopOfRank_4 (fun z20 => ?_)
    refine T_icmp_ge (pc := 7) C 56 dX8_stopOfRank_7 rfl h2 z20.1 (fun c21 => ?_) (fun c21 => ?_)
    · refine T_sub (L' := []) [] rfl ?_
      exact T_exit (fun h9 => h9 trivial)
    · refine T_iconst (pc := 10) C dX8_stopOfRank_10 ?_
      refine T_istore_n (pc := 11) (L' := [(3, vi 0), (0, .ref (ad r0)), (1, vi x1), (2, vi x2)]) C dX8_stopOfRank_11 rfl (Nat.le_of_ble_eq_true rfl) rfl ?_
      refine T_iconst (pc := 12) C dX8_stopOfRank_12 ?_
      refine T_istore (pc := 13) (L' := [(4, vi 0), (3, vi 0), (0, .ref (ad r0)), (1, vi x1), (2, vi x2)]) C dX8_stopOfRank_13 (Nat.le_of_ble_eq_true rfl) rfl ?_
      refine T_sub (L' := [(0, .ref (ad r0)), (1, vi x1), (2, vi x2), (3, vi 0), (4, vi 0)]) [2, 3, 4, 1, 0] rfl ?_
      refine T_loopE (lp_X8_stopOfRank_15 zk hZ C N σ r0 k0 x1 x2 h1 h2 N 0 0 (rngL rfl) (rngL rfl)) (fun q37 hq37 => ?_)
      refine T_iload_n (pc := 43) C dX8_stopOfRank_43 rfl 3 rfl ?_
      refine T_iload_n (pc := 44) C dX8_stopOfRank_44 rfl 1 rfl ?_
      refine T_icmp_ne (pc := 45) C 50 dX8_stopOfRank_45 rfl hq37 h1 (fun c38 => ?_) (fun c38 => ?_)
      · refine T_iinc (pc := 50) (L' := [(2, vi (x2 + 1)), (0, .ref (ad r0)), (1, vi x1), (3, vi q37)]) C dX8_stopOfRank_50 (Nat.le_of_ble_eq_true rfl) 2 rfl rfl ?_
        refine T_goto (pc := 53) C 2 dX8_stopOfRank_53 rfl ?_
        refine T_sub (L' := [(0, .ref (ad r0)), (1, vi x1), (2, vi (x2 + 1))]) [1, 2, 0] rfl ?_
        exact ih (x2 + 1) (rng_inc c21 h2 z20.1)
      · refine T_iload_n (pc := 48) C dX8_stopOfRank_48 rfl 2 rfl ?_
        exact T_iret (pc := 49) (Sum.inl x2) (fun h9 => h9) h2 (nar_I _) (by decide) dX8_stopOfRank_49
def f_X8_stopOfRank (N : Nat) (σ : Sm) (r0 : Nat) (x1 : Int) : Option Int :=
  (f_X8_stopOfRank_2 N σ r0 x1 N 0).bind (Sum.elim (fun v => some v) fun q39 => some (-1))
theorem ct_X8_stopOfRank {l : Launch} {cy : Nat → ClassId} {ad : Nat → Nat} {E : Nat → Nat → Nat} {G : va_G} {Z : vZ} (zk : Zk Z E) (N : Nat) (σ : Sm) (r0 : Nat) (x1 : Int) (k0 : kd r0 = 8) (h1 : rng x1) (hw : wfc σ) (o : Int) (h : f_X8_stopOfRank N σ r0 x1 = some o) : CzI Z l yX8_stopOfRank cX8_stopOfRank 5 (some .int) rm_X8_stopOfRank (wlc cy ad E) wfc G (tyc cy) [.ref (ad r0), vi x1] σ σ o := by
  refine czI_of zk.1 (plainFor_of_name (by decide)) (Nat.le_of_ble_eq_true rfl) hw (σ, o) o h (fun X Y v => EndI X Y cX8_stopOfRank rm_X8_stopOfRank .int (σ, v)) (fun _ _ h => h) (fun X A Q hZ hX C => ?_)
  replace C : Cx X (Yc cy ad E G A 5 Q) cX8_stopOfRank RX8 (some .int) rm_X8_stopOfRank (tyc cy) := C
  replace hZ : Zx Z X (Yc cy ad E G A 5 Q) := hZ
  show T X (Yc cy ad E G A 5 Q) (fun v => EndI X (Yc cy ad E G A 5 Q) cX8_stopOfRank rm_X8_stopOfRank .int (σ, v)) 0 0 0 [(0, .ref (ad r0)), (1, vi x1)] [] σ (f_X8_stopOfRank N σ r0 x1)
  unfold f_X8_stopOfRank
  refine T_iconst (pc := 0) C dX8_stopOfRank_0 ?_
  refine T_istore_n (pc := 1) (L' := [(2, vi 0), (0, .ref (ad r0)), (1, vi x1)]) C dX8_stopOfRank_1 rfl (Nat.le_of_ble_eq_true rfl) rfl ?_
  refine T_sub (L' := [(0, .ref (ad r0)), (1, vi x1), (2, vi 0)]) [1, 2, 0] rfl ?_
  refine T_loopS (g := fun v => v) (lp_X8_stopOfRank_2 zk hZ C N σ r0 k0 x1 h1 N 0 (rngL rfl)) (fun v h9 => h9) (fun q39 hq39 => ?_)
  refine T_iconst (pc := 56) C dX8_stopOfRank_56 ?_
  exact T_iret (pc := 57) (-1) (fun h9 => h9) (rngL rfl) (nar_I _) (by decide) dX8_stopOfRank_57

abbrev rm_X9_append : Room := ⟨0, 0, 0, 0⟩
theorem cm_X9_append : cmV yX9_append cX9_append 2 (some .int) 1 := ⟨kc_74, kc_420, ⟨by decide +kernel, by decide +kernel, by decide +kernel⟩, kc_421, kc_422⟩
def f_X9_append (σ : Sm) (r0 : Nat) (x1 : Int) : Option (Sm × Int) :=
  (if 60 ≤ (σ r0 1) then some (σ, (σ r0 1)) else if 0 ≤ (σ r0 1) ∧ (σ r0 1) < 60 then bl (upm σ (r0 + 1) (σ r0 1).toNat x1) fun s6 => if rng ((s6 r0 1) + 1) then bl (upm s6 r0 1 ((s6 r0 1) + 1)) fun s9 => some (s9, (s9 r0 1)) else none else none)
theorem ct_X9_append {l : Launch} {cy : Nat → ClassId} {ad : Nat → Nat} {E : Nat → Nat → Nat} {G : va_G} {Z : vZ} (zk : Zk Z E) (σ : Sm) (r0 : Nat) (x1 : Int) (k0 : kd r0 = 9) (h1 : 0 ≤ x1 ∧ x1 < 65536) (hw : wfc σ) (o : Sm × Int) (h : f_X9_append σ r0 x1 = some o) : CzI Z l yX9_append cX9_append 2 (some .int) rm_X9_append (wlc cy ad E) wfc G (tyc cy) [.ref (ad r0), vi x1] σ o.1 o.2 := by
  refine czI_of zk.1 (plainFor_of_name (by decide)) (Nat.le_of_ble_eq_true rfl) hw o o h (fun X Y w => EndI X Y cX9_append rm_X9_append .int w) (fun _ _ h => h) (fun X A Q hZ hX C => ?_)
  replace C : Cx X (Yc cy ad E G A 2 Q) cX9_append RX9 (some .int) rm_X9_append (tyc cy) := C
  replace hZ : Zx Z X (Yc cy ad E G A 2 Q) := hZ
  show T X (Yc cy ad E G A 2 Q) (fun w => EndI X (Yc cy ad E G A 2 Q) cX9_append rm_X9_append .int w) 0 0 0 [(0, .ref (ad r0)), (1, vi x1)] [] σ (f_X9_append σ r0 x1)
  unfold f_X9_append
  refine T_aload_n (pc := 0) C dX9_append_0 rfl 0 rfl ?_
  refine Tc_geti (pc := 1) C r0 9 1 6 k0 (by decide) (fun _ => rfl) rfl inX9 (by decide) rfl kc_418 dX9_append_1 (fun z1 => ?_)
  refine T_bipush (pc := 4) C dX9_append_4 (by decide) ?_
  refine T_icmp_ge (pc := 6) C 29 dX9_append_6 rfl z1 (rngL rfl) (fun c2 => ?_) (fun c2 => ?_)
  · refine T_aload_n (pc := 29) C dX9_append_29 rfl 0 rfl ?_
    refine Tc_geti (pc := 30) C r0 9 1 6 k0 (by decide) (fun _ => rfl) rfl inX9 (by decide) rfl kc_418 dX9_append_30 (fun z3 => ?_)
    exact T_iret (pc := 33) (σ, (σ r0 1)) (fun h9 => h9) z3 (nar_I _) (by decide) dX9_append_33
  · refine T_aload_n (pc := 9) C dX9_append_9 rfl 0 rfl ?_
    refine Tc_getr (pc := 10) C r0 9 0 6 k0 (by decide) (fun _ => rfl) rfl inX9 (by decide) (v := .ref (ad (r0 + 1))) rfl kc_419 dX9_append_10 ?_
    refine T_aload_n (pc := 13) C dX9_append_13 rfl 0 rfl ?_
    refine Tc_geti (pc := 14) C r0 9 1 6 k0 (by decide) (fun _ => rfl) rfl inX9 (by decide) rfl kc_418 dX9_append_14 (fun z4 => ?_)
    refine T_iload_n (pc := 17) C dX9_append_17 rfl 1 rfl ?_
    refine T_guard (fun g5 => ?_)
    refine Tc_cast (pc := 18) C (r0 + 1) (σ r0 1).toNat (kd_9 k0).1 g5 rfl h1 dX9_append_18 ?_
    refine T_blS (fun s6 => ?_)
    refine T_aload_n (pc := 19) C dX9_append_19 rfl 0 rfl ?_
    refine T_dup (pc := 20) C dX9_append_20 rfl ?_
    refine Tc_geti (pc := 21) C r0 9 1 6 k0 (by decide) (fun _ => rfl) rfl inX9 (by decide) rfl kc_418 dX9_append_21 (fun z7 => ?_)
    refine T_iconst (pc := 24) C dX9_append_24 ?_
    refine T_iadd (pc := 25) C dX9_append_25 ?_
    refine T_guard (fun g8 => ?_)
    refine Tc_put (pc := 26) C (ty := .int) r0 9 1 6 k0 (by decide) (fun _ => rfl) rfl inX9 (by decide) (fun _ => rfl) g8 tyX9 tyX9_ok nmX9 rfl (Nat.le_of_ble_eq_true rfl) kc_418 rfl (nar_I _) (fit_I _) dX9_append_26 ?_
    refine T_blS (fun s9 => ?_)
    refine T_aload_n (pc := 29) C dX9_append_29 rfl 0 rfl ?_
    refine Tc_geti (pc := 30) C r0 9 1 6 k0 (by decide) (fun _ => rfl) rfl inX9 (by decide) rfl kc_418 dX9_append_30 (fun z10 => ?_)
    exact T_iret (pc := 33) (s9, (s9 r0 1)) (fun h9 => h9) z10 (nar_I _) (by decide) dX9_append_33

abbrev rm_X9_commandOf : Room := ⟨0, 0, 0, 0⟩
theorem cm_X9_commandOf : cmV yX9_commandOf cX9_commandOf 2 (some (.object "RingTransit$Command")) 1 := ⟨kc_75, kc_420, ⟨by decide +kernel, by decide +kernel, by decide +kernel⟩, kc_424, kc_425⟩
def f_X9_commandOf (σ : Sm) (r0 : Nat) (x1 : Int) : Option Int :=
  if 0 ≤ x1 ∧ x1 < 16 then some (σ (r0 + 2) x1.toNat) else none
theorem ct_X9_commandOf {l : Launch} {cy : Nat → ClassId} {ad : Nat → Nat} {E : Nat → Nat → Nat} {G : va_G} {Z : vZ} (zk : Zk Z E) (σ : Sm) (r0 : Nat) (x1 : Int) (k0 : kd r0 = 9) (h1 : rng x1) (hw : wfc σ) (o : Int) (h : f_X9_commandOf σ r0 x1 = some o) : CzE Z E 1 14 l yX9_commandOf cX9_commandOf 2 (some (.object "RingTransit$Command")) rm_X9_commandOf (wlc cy ad E) wfc G (tyc cy) [.ref (ad r0), vi x1] σ σ o := by
  refine czE_of zk.1 (plainFor_of_name (by decide)) (Nat.le_of_ble_eq_true rfl) hw (σ, o) o h (fun X Y v => EndE E 1 14 X Y cX9_commandOf rm_X9_commandOf (σ, v)) (fun _ _ h => h) (fun X A Q hZ hX C => ?_)
  replace C : Cx X (Yc cy ad E G A 2 Q) cX9_commandOf RX9 (some (.object "RingTransit$Command")) rm_X9_commandOf (tyc cy) := C
  replace hZ : Zx Z X (Yc cy ad E G A 2 Q) := hZ
  show T X (Yc cy ad E G A 2 Q) (fun v => EndE E 1 14 X (Yc cy ad E G A 2 Q) cX9_commandOf rm_X9_commandOf (σ, v)) 0 0 0 [(0, .ref (ad r0)), (1, vi x1)] [] σ (f_X9_commandOf σ r0 x1)
  unfold f_X9_commandOf
  refine T_aload_n (pc := 0) C dX9_commandOf_0 rfl 0 rfl ?_
  refine Tc_getr (pc := 1) C r0 9 4 6 k0 (by decide) (fun _ => rfl) rfl inX9 (by decide) (v := .ref (ad (r0 + 2))) rfl kc_423 dX9_commandOf_1 ?_
  refine T_iload_n (pc := 4) C dX9_commandOf_4 rfl 1 rfl ?_
  refine T_guard (fun g1 => ?_)
  refine Tc_ald30 (pc := 5) C (r0 + 2) x1.toNat (kd_9 k0).2.1 g1 rfl dX9_commandOf_5 (fun y2 => ?_)
  exact T_eret (pc := 6) (σ (r0 + 2) x1.toNat) (fun h9 => h9) y2 (by decide) dX9_commandOf_6

abbrev rm_X9_valueOf : Room := ⟨0, 0, 0, 0⟩
theorem cm_X9_valueOf : cmV yX9_valueOf cX9_valueOf 3 (some .int) 2 := ⟨kc_76, kc_420, ⟨by decide +kernel, by decide +kernel, by decide +kernel⟩, kc_427, kc_428⟩
def f_X9_valueOf (σ : Sm) (r0 : Nat) (x1 : Int) (x2 : Int) : Option Int :=
  if 0 ≤ ((x1 * 4) + x2) ∧ ((x1 * 4) + x2) < 64 then some (σ (r0 + 3) ((x1 * 4) + x2).toNat) else none
theorem ct_X9_valueOf {l : Launch} {cy : Nat → ClassId} {ad : Nat → Nat} {E : Nat → Nat → Nat} {G : va_G} {Z : vZ} (zk : Zk Z E) (σ : Sm) (r0 : Nat) (x1 : Int) (x2 : Int) (k0 : kd r0 = 9) (h1 : rng x1) (h2 : rng x2) (hw : wfc σ) (o : Int) (h : f_X9_valueOf σ r0 x1 x2 = some o) : CzI Z l yX9_valueOf cX9_valueOf 3 (some .int) rm_X9_valueOf (wlc cy ad E) wfc G (tyc cy) [.ref (ad r0), vi x1, vi x2] σ σ o := by
  refine czI_of zk.1 (plainFor_of_name (by decide)) (Nat.le_of_ble_eq_true rfl) hw (σ, o) o h (fun X Y v => EndI X Y cX9_valueOf rm_X9_valueOf .int (σ, v)) (fun _ _ h => h) (fun X A Q hZ hX C => ?_)
  replace C : Cx X (Yc cy ad E G A 3 Q) cX9_valueOf RX9 (some .int) rm_X9_valueOf (tyc cy) := C
  replace hZ : Zx Z X (Yc cy ad E G A 3 Q) := hZ
  show T X (Yc cy ad E G A 3 Q) (fun v => EndI X (Yc cy ad E G A 3 Q) cX9_valueOf rm_X9_valueOf .int (σ, v)) 0 0 0 [(0, .ref (ad r0)), (1, vi x1), (2, vi x2)] [] σ (f_X9_valueOf σ r0 x1 x2)
  unfold f_X9_valueOf
  refine T_aload_n (pc := 0) C dX9_valueOf_0 rfl 0 rfl ?_
  refine Tc_getr (pc := 1) C r0 9 5 6 k0 (by decide) (fun _ => rfl) rfl inX9 (by decide) (v := .ref (ad (r0 + 3))) rfl kc_426 dX9_valueOf_1 ?_
  refine T_iload_n (pc := 4) C dX9_valueOf_4 rfl 1 rfl ?_
  refine T_iconst (pc := 5) C dX9_valueOf_5 ?_
  refine T_imul (pc := 6) C dX9_valueOf_6 ?_
  refine T_iload_n (pc := 7) C dX9_valueOf_7 rfl 2 rfl ?_
  refine T_iadd (pc := 8) C dX9_valueOf_8 ?_
  refine T_guard (fun g1 => ?_)
  refine Tc_iald (pc := 9) C (r0 + 3) 24 64 ((x1 * 4) + x2).toNat (kd_9 k0).2.2 ⟨by decide, by decide⟩ rfl g1 rfl dX9_valueOf_9 (fun z2 => ?_)
  exact T_iret (pc := 10) (σ (r0 + 3) ((x1 * 4) + x2).toNat) (fun h9 => h9) z2 (nar_I _) (by decide) dX9_valueOf_10

abbrev rm_X9_isDigit : Room := ⟨0, 0, 0, 0⟩
theorem cm_X9_isDigit : cmS yX9_isDigit cX9_isDigit 1 (some .boolean) 1 := ⟨kc_78, kc_420, ⟨by decide +kernel, by decide +kernel, by decide +kernel⟩, kc_429⟩
def f_X9_isDigit (x0 : Int) : Option Int :=
  (if x0 < 48 then some 0 else (if 57 < x0 then some 0 else some 1))
theorem ct_X9_isDigit {l : Launch} {cy : Nat → ClassId} {ad : Nat → Nat} {E : Nat → Nat → Nat} {G : va_G} {Z : vZ} (zk : Zk Z E) (σ : Sm) (x0 : Int) (h0 : 0 ≤ x0 ∧ x0 < 65536) (hw : wfc σ) (o : Int) (h : f_X9_isDigit x0 = some o) : CzI Z l yX9_isDigit cX9_isDigit 1 (some .boolean) rm_X9_isDigit (wlc cy ad E) wfc G (tyc cy) [vi x0] σ σ o := by
  refine czI_of zk.1 (plainFor_of_name (by decide)) (Nat.le_of_ble_eq_true rfl) hw (σ, o) o h (fun X Y v => EndI X Y cX9_isDigit rm_X9_isDigit .boolean (σ, v)) (fun _ _ h => h) (fun X A Q hZ hX C => ?_)
  replace C : Cx X (Yc cy ad E G A 1 Q) cX9_isDigit RX9 (some .boolean) rm_X9_isDigit (tyc cy) := C
  replace hZ : Zx Z X (Yc cy ad E G A 1 Q) := hZ
  show T X (Yc cy ad E G A 1 Q) (fun v => EndI X (Yc cy ad E G A 1 Q) cX9_isDigit rm_X9_isDigit .boolean (σ, v)) 0 0 0 [(0, vi x0)] [] σ (f_X9_isDigit x0)
  unfold f_X9_isDigit
  refine T_iload_n (pc := 0) C dX9_isDigit_0 rfl 0 rfl ?_
  refine T_bipush (pc := 1) C dX9_isDigit_1 (by decide) ?_
  refine T_icmp_lt (pc := 3) C 16 dX9_isDigit_3 rfl (chr_rng h0) (rngL rfl) (fun c1 => ?_) (fun c1 => ?_)
  · refine T_iconst (pc := 16) C dX9_isDigit_16 ?_
    exact T_iret (pc := 17) 0 (fun h9 => h9) (rngL rfl) (nar_Z (Or.inl rfl)) (by decide) dX9_isDigit_17
  · refine T_iload_n (pc := 6) C dX9_isDigit_6 rfl 0 rfl ?_
    refine T_bipush (pc := 7) C dX9_isDigit_7 (by decide) ?_
    refine T_icmp_gt (pc := 9) C 16 dX9_isDigit_9 rfl (chr_rng h0) (rngL rfl) (fun c2 => ?_) (fun c2 => ?_)
    · refine T_iconst (pc := 16) C dX9_isDigit_16 ?_
      exact T_iret (pc := 17) 0 (fun h9 => h9) (rngL rfl) (nar_Z (Or.inl rfl)) (by decide) dX9_isDigit_17
    · refine T_iconst (pc := 12) C dX9_isDigit_12 ?_
      refine T_goto (pc := 13) C 17 dX9_isDigit_13 rfl ?_
      exact T_iret (pc := 17) 1 (fun h9 => h9) (rngL rfl) (nar_Z (Or.inr rfl)) (by decide) dX9_isDigit_17

abbrev rm_X9_endOf : Room := ⟨1, 0, 0, 20⟩
theorem cm_X9_endOf : cmV yX9_endOf cX9_endOf 5 (some .int) 2 := ⟨kc_77, kc_420, ⟨by decide +kernel, by decide +kernel, by decide +kernel⟩, kc_431, kc_432⟩
def f_X9_endOf_57 (σ : Sm) (r0 : Nat) (x4 : Int) : Nat → Int → Option (Int)
  | 0, _ => none
  | n + 1, x3 => (if x4 ≤ x3 then some x3 else (if (σ r0 1) ≤ x3 then some x3 else if 0 ≤ x3 ∧ x3 < 60 then (f_X9_isDigit (σ (r0 + 1) x3.toNat)).bind fun v10 => (if v10 = 0 then some x3 else f_X9_endOf_57 σ r0 x4 n (x3 + 1)) else none))
theorem lp_X9_endOf_57 {X : vjX} {A : Nat → Prop} {Q : State → Prop} {cy : Nat → ClassId} {ad : Nat → Nat} {E : Nat → Nat → Nat} {G : va_G} {Z : vZ} (zk : Zk Z E) (hZ : Zx Z X (Yc cy ad E G A 5 Q)) (C : Cx X (Yc cy ad E G A 5 Q) cX9_endOf RX9 (some .int) rm_X9_endOf (tyc cy)) (σ : Sm) (r0 : Nat) (k0 : kd r0 = 9) (x4 : Int) (h4 : rng x4) : ∀ (n : Nat) (x3 : Int) (h3 : rng x3), T X (Yc cy ad E G A 5 Q) (fun (q : Int) => rng q → J X (Yc cy ad E G A 5 Q) 0 0 89 [(3, vi q)] [] σ) 0 0 57 [(0, .ref (ad r0)), (3, vi x3), (4, vi x4)] [] σ (f_X9_endOf_57 σ r0 x4 n x3) := by
  intro n
  induction n with
  | zero => intro x3 h3; exact T_none
  | succ n ih =>
    intro x3 h3
    rw [f_X9_endOf_57]
    refine T_iload_n (pc := 57) C dX9_endOf_57 rfl 1 rfl ?_
    refine T_iload (pc := 58) C dX9_endOf_58 2 rfl ?_
    refine T_icmp_ge (pc := 60) C 89 dX9_endOf_60 rfl h3 h4 (fun c5 => ?_) (fun c5 => ?_)
    · refine T_sub (L' := [(3, vi x3)]) [1] rfl ?_
      exact T_exit (fun h9 => h9 h3)
    · refine T_iload_n (pc := 63) C dX9_endOf_63 rfl 1 rfl ?_
      refine T_aload_n (pc := 64) C dX9_endOf_64 rfl 0 rfl ?_
      refine Tc_geti (pc := 65) C r0 9 1 6 k0 (by decide) (fun _ => rfl) rfl inX9 (by decide) rfl kc_418 dX9_endOf_65 (fun z6 => ?_)
      refine T_icmp_ge (pc := 68) C 89 dX9_endOf_68 rfl h3 z6 (fun c7 => ?_) (fun c7 => ?_)
      · refine T_sub (L' := [(3, vi x3)]) [1] rfl ?_
        exact T_exit (fun h9 => h9 h3)
      · refine T_aload_n (pc := 71) C dX9_endOf_71 rfl 0 rfl ?_
        refine Tc_getr (pc := 72) C r0 9 0 6 k0 (by decide) (fun _ => rfl) rfl inX9 (by decide) (v := .ref (ad (r0 + 1))) rfl kc_419 dX9_endOf_72 ?_
        refine T_iload_n (pc := 75) C dX9_endOf_75 rfl 1 rfl ?_
        refine T_guard (fun g8 => ?_)
        refine Tc_cald (pc := 76) C (r0 + 1) x3.toNat (kd_9 k0).1 g8 rfl dX9_endOf_76 (fun z9 => ?_)
        refine T_czSip (pc := 77) zk.1 hZ C [vi (σ (r0 + 1) x3.toNat)] [] (fun o h9 hw => ct_X9_isDigit zk σ (σ (r0 + 1) x3.toNat) z9 hw o h9) kc_430 cm_X9_isDigit rfl rfl (Nat.le_of_ble_eq_true rfl) (by decide) (a' := 0) (b' := 0) ⟨rfl, rfl⟩ dX9_endOf_77 (fun v10 hv10 => ?_)
        refine T_if_eq (pc := 80) C 89 dX9_endOf_80 rfl hv10.1 (fun c11 => ?_) (fun c11 => ?_)
        · refine T_sub (L' := [(3, vi x3)]) [1] rfl ?_
          exact T_exit (fun h9 => h9 h3)
        · refine T_iinc (pc := 83) (L' := [(3, vi (x3 + 1)), (0, .ref (ad r0)), (4, vi x4)]) C dX9_endOf_83 (Nat.le_of_ble_eq_true rfl) 1 rfl rfl ?_
          refine T_goto (pc := 86) C 57 dX9_endOf_86 rfl ?_
          refine T_sub (L' := [(0, .ref (ad r0)), (3, vi (x3 + 1)), (4, vi x4)]) [1, 0, 2] rfl ?_
          exact ih (x3 + 1) (rng_inc c7 h3 z6)
def f_X9_endOf (N : Nat) (σ : Sm) (r0 : Nat) (x1 : Int) (x2 : Int) : Option Int :=
  (if x1 = 35 then (if x1 = 35 then bl (x2 + 1) fun v14 => if rng v14 then (f_X9_endOf_57 σ r0 v14 N x2).bind fun q16 => some q16 else none else bl (x2 + 3) fun v3 => if rng v3 then (f_X9_endOf_57 σ r0 v3 N x2).bind fun q13 => some q13 else none) else (if x1 = 64 then (if x1 = 35 then bl (x2 + 1) fun v22 => if rng v22 then (f_X9_endOf_57 σ r0 v22 N x2).bind fun q24 => some q24 else none else bl (x2 + 3) fun v19 => if rng v19 then (f_X9_endOf_57 σ r0 v19 N x2).bind fun q21 => some q21 else none) else (if (σ r0 1) ≤ x2 then some x2 else if 0 ≤ x2 ∧ x2 < 60 then (if (σ (r0 + 1) x2.toNat) = x1 then some (x2 + 1) else some x2) else none)))
theorem ct_X9_endOf {l : Launch} {cy : Nat → ClassId} {ad : Nat → Nat} {E : Nat → Nat → Nat} {G : va_G} {Z : vZ} (zk : Zk Z E) (N : Nat) (σ : Sm) (r0 : Nat) (x1 : Int) (x2 : Int) (k0 : kd r0 = 9) (h1 : 0 ≤ x1 ∧ x1 < 65536) (h2 : rng x2) (hw : wfc σ) (o : Int) (h : f_X9_endOf N σ r0 x1 x2 = some o) : CzI Z l yX9_endOf cX9_endOf 5 (some .int) rm_X9_endOf (wlc cy ad E) wfc G (tyc cy) [.ref (ad r0), vi x1, vi x2] σ σ o := by
  refine czI_of zk.1 (plainFor_of_name (by decide)) (Nat.le_of_ble_eq_true rfl) hw (σ, o) o h (fun X Y v => EndI X Y cX9_endOf rm_X9_endOf .int (σ, v)) (fun _ _ h => h) (fun X A Q hZ hX C => ?_)
  replace C : Cx X (Yc cy ad E G A 5 Q) cX9_endOf RX9 (some .int) rm_X9_endOf (tyc cy) := C
  replace hZ : Zx Z X (Yc cy ad E G A 5 Q) := hZ
  show T X (Yc cy ad E G A 5 Q) (fun v => EndI X (Yc cy ad E G A 5 Q) cX9_endOf rm_X9_endOf .int (σ, v)) 0 0 0 [(0, .ref (ad r0)), (1, vi x1), (2, vi x2)] [] σ (f_X9_endOf N σ r0 x1 x2)
  unfold f_X9_endOf
  refine T_iload_n (pc := 0) C dX9_endOf_0 rfl 1 rfl ?_
  refine T_bipush (pc := 1) C dX9_endOf_1 (by decide) ?_
  refine T_icmp_eq (pc := 3) C 38 dX9_endOf_3 rfl (chr_rng h1) (rngL rfl) (fun c1 => ?_) (fun c1 => ?_)
  · refine T_iload_n (pc := 38) C dX9_endOf_38 rfl 2 rfl ?_
    refine T_istore_n (pc := 39) (L' := [(3, vi x2), (0, .ref (ad r0)), (1, vi x1), (2, vi x2)]) C dX9_endOf_39 rfl (Nat.le_of_ble_eq_true rfl) rfl ?_
    refine T_iload_n (pc := 40) C dX9_endOf_40 rfl 2 rfl ?_
    refine T_bipush (pc := 41) C dX9_endOf_41 (by decide) ?_
    refine T_icmp_ne (pc := 43) C 52 dX9_endOf_43 rfl (chr_rng h1) (rngL rfl) (fun c2 => ?_) (fun c2 => ?_)
    · refine T_iload_n (pc := 52) C dX9_endOf_52 rfl 3 rfl ?_
      refine T_iconst (pc := 53) C dX9_endOf_53 ?_
      refine T_iadd (pc := 54) C dX9_endOf_54 ?_
      refine T_blN (fun v3 => ?_)
      refine T_istore (pc := 55) (L' := [(4, vi v3), (3, vi x2), (0, .ref (ad r0)), (1, vi x1), (2, vi x2)]) C dX9_endOf_55 (Nat.le_of_ble_eq_true rfl) rfl ?_
      refine T_sub (L' := [(0, .ref (ad r0)), (3, vi x2), (4, vi v3)]) [2, 1, 0] rfl ?_
      refine T_guard (fun g12 => ?_)
      refine T_loopE (lp_X9_endOf_57 zk hZ C σ r0 k0 v3 g12 N x2 h2) (fun q13 hq13 => ?_)
      refine T_iload_n (pc := 89) C dX9_endOf_89 rfl 0 rfl ?_
      exact T_iret (pc := 90) q13 (fun h9 => h9) hq13 (nar_I _) (by decide) dX9_endOf_90
    · refine T_iload_n (pc := 46) C dX9_endOf_46 rfl 3 rfl ?_
      refine T_iconst (pc := 47) C dX9_endOf_47 ?_
      refine T_iadd (pc := 48) C dX9_endOf_48 ?_
      refine T_goto (pc := 49) C 55 dX9_endOf_49 rfl ?_
      refine T_blN (fun v14 => ?_)
      refine T_istore (pc := 55) (L' := [(4, vi v14), (3, vi x2), (0, .ref (ad r0)), (1, vi x1), (2, vi x2)]) C dX9_endOf_55 (Nat.le_of_ble_eq_true rfl) rfl ?_
      refine T_sub (L' := [(0, .ref (ad r0)), (3, vi x2), (4, vi v14)]) [2, 1, 0] rfl ?_
      refine T_guard (fun g15 => ?_)
      refine T_loopE (lp_X9_endOf_57 zk hZ C σ r0 k0 v14 g15 N x2 h2) (fun q16 hq16 => ?_)
      refine T_iload_n (pc := 89) C dX9_endOf_89 rfl 0 rfl ?_
      exact T_iret (pc := 90) q16 (fun h9 => h9) hq16 (nar_I _) (by decide) dX9_endOf_90
  · refine T_iload_n (pc := 6) C dX9_endOf_6 rfl 1 rfl ?_
    refine T_bipush (pc := 7) C dX9_endOf_7 (by decide) ?_
    refine T_icmp_eq (pc := 9) C 38 dX9_endOf_9 rfl (chr_rng h1) (rngL rfl) (fun c17 => ?_) (fun c17 => ?_)
    · refine T_iload_n (pc := 38) C dX9_endOf_38 rfl 2 rfl ?_
      refine T_istore_n (pc := 39) (L' := [(3, vi x2), (0, .ref (ad r0)), (1, vi x1), (2, vi x2)]) C dX9_endOf_39 rfl (Nat.le_of_ble_eq_true rfl) rfl ?_
      refine T_iload_n (pc := 40) C dX9_endOf_40 rfl 2 rfl ?_
      refine T_bipush (pc := 41) C dX9_endOf_41 (by decide) ?_
      refine T_icmp_ne (pc := 43) C 52 dX9_endOf_43 rfl (chr_rng h1) (rngL rfl) (fun c18 => ?_) (fun c18 => ?_)
      · refine T_iload_n (pc := 52) C dX9_endOf_52 rfl 3 rfl ?_
        refine T_iconst (pc := 53) C dX9_endOf_53 ?_
        refine T_iadd (pc := 54) C dX9_endOf_54 ?_
        refine T_blN (fun v19 => ?_)
        refine T_istore (pc := 55) (L' := [(4, vi v19), (3, vi x2), (0, .ref (ad r0)), (1, vi x1), (2, vi x2)]) C dX9_endOf_55 (Nat.le_of_ble_eq_true rfl) rfl ?_
        refine T_sub (L' := [(0, .ref (ad r0)), (3, vi x2), (4, vi v19)]) [2, 1, 0] rfl ?_
        refine T_guard (fun g20 => ?_)
        refine T_loopE (lp_X9_endOf_57 zk hZ C σ r0 k0 v19 g20 N x2 h2) (fun q21 hq21 => ?_)
        refine T_iload_n (pc := 89) C dX9_endOf_89 rfl 0 rfl ?_
        exact T_iret (pc := 90) q21 (fun h9 => h9) hq21 (nar_I _) (by decide) dX9_endOf_90
      · refine T_iload_n (pc := 46) C dX9_endOf_46 rfl 3 rfl ?_
        refine T_iconst (pc := 47) C dX9_endOf_47 ?_
        refine T_iadd (pc := 48) C dX9_endOf_48 ?_
        refine T_goto (pc := 49) C 55 dX9_endOf_49 rfl ?_
        refine T_blN (fun v22 => ?_)
        refine T_istore (pc := 55) (L' := [(4, vi v22), (3, vi x2), (0, .ref (ad r0)), (1, vi x1), (2, vi x2)]) C dX9_endOf_55 (Nat.le_of_ble_eq_true rfl) rfl ?_
        refine T_sub (L' := [(0, .ref (ad r0)), (3, vi x2), (4, vi v22)]) [2, 1, 0] rfl ?_
        refine T_guard (fun g23 => ?_)
        refine T_loopE (lp_X9_endOf_57 zk hZ C σ r0 k0 v22 g23 N x2 h2) (fun q24 hq24 => ?_)
        refine T_iload_n (pc := 89) C dX9_endOf_89 rfl 0 rfl ?_
        exact T_iret (pc := 90) q24 (fun h9 => h9) hq24 (nar_I _) (by decide) dX9_endOf_90
    · refine T_iload_n (pc := 12) C dX9_endOf_12 rfl 2 rfl ?_
      refine T_aload_n (pc := 13) C dX9_endOf_13 rfl 0 rfl ?_
      refine Tc_geti (pc := 14) C r0 9 1 6 k0 (by decide) (fun _ => rfl) rfl inX9 (by decide) rfl kc_418 dX9_endOf_14 (fun z25 => ?_)
      refine T_icmp_ge (pc := 17) C 36 dX9_endOf_17 rfl h2 z25 (fun c26 => ?_) (fun c26 => ?_)
      · refine T_iload_n (pc := 36) C dX9_endOf_36 rfl 2 rfl ?_
        exact T_iret (pc := 37) x2 (fun h9 => h9) h2 (nar_I _) (by decide) dX9_endOf_37
      · refine T_aload_n (pc := 20) C dX9_endOf_20 rfl 0 rfl ?_
        refine Tc_getr (pc := 21) C r0 9 0 6 k0 (by decide) (fun _ => rfl) rfl inX9 (by decide) (v := .ref (ad (r0 + 1))) rfl kc_419 dX9_endOf_21 ?_
        refine T_iload_n (pc := 24) C dX9_endOf_24 rfl 2 rfl ?_
        refine T_guard (fun g27 => ?_)
        refine Tc_cald (pc := 25) C (r0 + 1) x2.toNat (kd_9 k0).1 g27 rfl dX9_endOf_25 (fun z28 => ?_)
        refine T_iload_n (pc := 26) C dX9_endOf_26 rfl 1 rfl ?_
        refine T_icmp_ne (pc := 27) C 36 dX9_endOf_27 rfl (chr_rng z28) (chr_rng h1) (fun c29 => ?_) (fun c29 => ?_)
        · refine T_iload_n (pc := 36) C dX9_endOf_36 rfl 2 rfl ?_
          exact T_iret (pc := 37) x2 (fun h9 => h9) h2 (nar_I _) (by decide) dX9_endOf_37
        · refine T_iload_n (pc := 30) C dX9_endOf_30 rfl 2 rfl ?_
          refine T_iconst (pc := 31) C dX9_endOf_31 ?_
          refine T_iadd (pc := 32) C dX9_endOf_32 ?_
          refine T_goto (pc := 33) C 37 dX9_endOf_33 rfl ?_
          exact T_iret (pc := 37) (x2 + 1) (fun h9 => h9) (rng_inc c26 h2 z25) (nar_I _) (by decide) dX9_endOf_37

abbrev rm_X9_numberIn : Room := ⟨0, 0, 0, 0⟩
theorem cm_X9_numberIn : cmV yX9_numberIn cX9_numberIn 5 (some .int) 2 := ⟨kc_79, kc_420, ⟨by decide +kernel, by decide +kernel, by decide +kernel⟩, kc_433, kc_434⟩
def f_X9_numberIn_5 (σ : Sm) (r0 : Nat) (x2 : Int) : Nat → Int → Int → Option (Int)
  | 0, _, _ => none
  | n + 1, x3, x4 => (if x2 ≤ x4 then some x3 else if 0 ≤ x4 ∧ x4 < 60 then bl ((x3 * 10) + ((σ (r0 + 1) x4.toNat) - 48)) fun v9 => if rng v9 then f_X9_numberIn_5 σ r0 x2 n v9 (x4 + 1) else none else none)
theorem lp_X9_numberIn_5 {X : vjX} {A : Nat → Prop} {Q : State → Prop} {cy : Nat → ClassId} {ad : Nat → Nat} {E : Nat → Nat → Nat} {G : va_G} {Z : vZ} (zk : Zk Z E) (hZ : Zx Z X (Yc cy ad E G A 5 Q)) (C : Cx X (Yc cy ad E G A 5 Q) cX9_numberIn RX9 (some .int) rm_X9_numberIn (tyc cy)) (σ : Sm) (r0 : Nat) (k0 : kd r0 = 9) (x2 : Int) (h2 : rng x2) : ∀ (n : Nat) (x3 : Int) (x4 : Int) (h3 : rng x3) (h4 : rng x4), T X (Yc cy ad E G A 5 Q) (fun (q : Int) => rng q → J X (Yc cy ad E G A 5 Q) 0 0 33 [(3, vi q)] [] σ) 0 0 5 [(0, .ref (ad r0)), (2, vi x2), (3, vi x3), (4, vi x4)] [] σ (f_X9_numberIn_5 σ r0 x2 n x3 x4) := by
  intro n
  induction n with
  | zero => intro x3 x4 h3 h4; exact T_none
  | succ n ih =>
    intro x3 x4 h3 h4
    rw [f_X9_numberIn_5]
    refine T_iload (pc := 5) C dX9_numberIn_5 3 rfl ?_
    refine T_iload_n (pc := 7) C dX9_numberIn_7 rfl 1 rfl ?_
    refine T_icmp_ge (pc := 8) C 33 dX9_numberIn_8 rfl h4 h2 (fun c6 => ?_) (fun c6 => ?_)
    · refine T_sub (L' := [(3, vi x3)]) [2] rfl ?_
      exact T_exit (fun h9 => h9 h3)
    · refine T_iload_n (pc := 11) C dX9_numberIn_11 rfl 2 rfl ?_
      refine T_bipush (pc := 12) C dX9_numberIn_12 (by decide) ?_
      refine T_imul (pc := 14) C dX9_numberIn_14 ?_
      refine T_aload_n (pc := 15) C dX9_numberIn_15 rfl 0 rfl ?_
      refine Tc_getr (pc := 16) C r0 9 0 6 k0 (by decide) (fun _ => rfl) rfl inX9 (by decide) (v := .ref (ad (r0 + 1))) rfl kc_419 dX9_numberIn_16 ?_
      refine T_iload (pc := 19) C dX9_numberIn_19 3 rfl ?_
      refine T_guard (fun g7 => ?_)
      refine Tc_cald (pc := 21) C (r0 + 1) x4.toNat (kd_9 k0).1 g7 rfl dX9_numberIn_21 (fun z8 => ?_)
      refine T_bipush (pc := 22) C dX9_numberIn_22 (by decide) ?_
      refine T_isub (pc := 24) C dX9_numberIn_24 ?_
      refine T_iadd (pc := 25) C dX9_numberIn_25 ?_
      refine T_blN (fun v9 => ?_)
      refine T_istore_n (pc := 26) (L' := [(3, vi v9), (0, .ref (ad r0)), (2, vi x2), (4, vi x4)]) C dX9_numberIn_26 rfl (Nat.le_of_ble_eq_true rfl) rfl ?_
      refine T_iinc (pc := 27) (L' := [(4, vi (x4 + 1)), (3, vi v9), (0, .ref (ad r0)), (2, vi x2)]) C dX9_numberIn_27 (Nat.le_of_ble_eq_true rfl) 3 rfl rfl ?_
      refine T_goto (pc := 30) C 5 dX9_numberIn_30 rfl ?_
      refine T_sub (L' := [(0, .ref (ad r0)), (2, vi x2), (3, vi v9), (4, vi (x4 + 1))]) [2, 3, 1, 0] rfl ?_
      refine T_guard (fun g10 => ?_)
      exact ih v9 (x4 + 1) g10 (rng_inc c6 h4 h2)
def f_X9_numberIn (N : Nat) (σ : Sm) (r0 : Nat) (x1 : Int) (x2 : Int) : Option Int :=
  (f_X9_numberIn_5 σ r0 x2 N 0 x1).bind fun q11 => some q11
theorem ct_X9_numberIn {l : Launch} {cy : Nat → ClassId} {ad : Nat → Nat} {E : Nat → Nat → Nat} {G : va_G} {Z : vZ} (zk : Zk Z E) (N : Nat) (σ : Sm) (r0 : Nat) (x1 : Int) (x2 : Int) (k0 : kd r0 = 9) (h1 : rng x1) (h2 : rng x2) (hw : wfc σ) (o : Int) (h : f_X9_numberIn N σ r0 x1 x2 = some o) : CzI Z l yX9_numberIn cX9_numberIn 5 (some .int) rm_X9_numberIn (wlc cy ad E) wfc G (tyc cy) [.ref (ad r0), vi x1, vi x2] σ σ o := by
  refine czI_of zk.1 (plainFor_of_name (by decide)) (Nat.le_of_ble_eq_true rfl) hw (σ, o) o h (fun X Y v => EndI X Y cX9_numberIn rm_X9_numberIn .int (σ, v)) (fun _ _ h => h) (fun X A Q hZ hX C => ?_)
  replace C : Cx X (Yc cy ad E G A 5 Q) cX9_numberIn RX9 (some .int) rm_X9_numberIn (tyc cy) := C
  replace hZ : Zx Z X (Yc cy ad E G A 5 Q) := hZ
  show T X (Yc cy ad E G A 5 Q) (fun v => EndI X (Yc cy ad E G A 5 Q) cX9_numberIn rm_X9_numberIn .int (σ, v)) 0 0 0 [(0, .ref (ad r0)), (1, vi x1), (2, vi x2)] [] σ (f_X9_numberIn N σ r0 x1 x2)
  unfold f_X9_numberIn
  refine T_iconst (pc := 0) C dX9_numberIn_0 ?_
  refine T_istore_n (pc := 1) (L' := [(3, vi 0), (0, .ref (ad r0)), (1, vi x1), (2, vi x2)]) C dX9_numberIn_1 rfl (Nat.le_of_ble_eq_true rfl) rfl ?_
  refine T_iload_n (pc := 2) C dX9_numberIn_2 rfl 2 rfl ?_
  refine T_istore (pc := 3) (L' := [(4, vi x1), (3, vi 0), (0, .ref (ad r0)), (1, vi x1), (2, vi x2)]) C dX9_numberIn_3 (Nat.le_of_ble_eq_true rfl) rfl ?_
  refine T_sub (L' := [(0, .ref (ad r0)), (2, vi x2), (3, vi 0), (4, vi x1)]) [2, 4, 1, 0] rfl ?_
  refine T_loopE (lp_X9_numberIn_5 zk hZ C σ r0 k0 x2 h2 N 0 x1 (rngL rfl) h1) (fun q11 hq11 => ?_)
  refine T_iload_n (pc := 33) C dX9_numberIn_33 rfl 0 rfl ?_
  exact T_iret (pc := 34) q11 (fun h9 => h9) hq11 (nar_I _) (by decide) dX9_numberIn_34

abbrev rm_X11_giveBack : Room := ⟨1, 0, 0, 23⟩
theorem cm_X11_giveBack : cmV yX11_giveBack cX11_giveBack 3 (some .int) 1 := ⟨kc_85, kc_251, ⟨by decide +kernel, by decide +kernel, by decide +kernel⟩, kc_436, kc_437⟩
def f_X11_giveBack (N : Nat) (σ : Sm) (r0 : Nat) (x1 : Int) : Option (Sm × Int) :=
  (if x1 < 0 then some (σ, (-1)) else (if x1 < (σ r0 1) then if 0 ≤ x1 ∧ x1 < 16 then bl (σ (σ (r0 + 1) x1.toNat).toNat 5) fun v7 => if rng ((σ r0 3) - v7) then bl (upm σ r0 3 ((σ r0 3) - v7)) fun s10 => if rng ((s10 r0 4) + v7) then bl (upm s10 r0 4 ((s10 r0 4) + v7)) fun s13 => (f_X11_drop N s13 r0 x1).bind fun s14 => some (s14, v7) else none else none else none else some (σ, (-1))))
theorem ct_X11_giveBack {l : Launch} {cy : Nat → ClassId} {ad : Nat → Nat} {E : Nat → Nat → Nat} {G : va_G} {Z : vZ} (zk : Zk Z E) (N : Nat) (σ : Sm) (r0 : Nat) (x1 : Int) (k0 : kd r0 = 11) (h1 : rng x1) (hw : wfc σ) (o : Sm × Int) (h : f_X11_giveBack N σ r0 x1 = some o) : CzI Z l yX11_giveBack cX11_giveBack 3 (some .int) rm_X11_giveBack (wlc cy ad E) wfc G (tyc cy) [.ref (ad r0), vi x1] σ o.1 o.2 := by
  refine czI_of zk.1 (plainFor_of_name (by decide)) (Nat.le_of_ble_eq_true rfl) hw o o h (fun X Y w => EndI X Y cX11_giveBack rm_X11_giveBack .int w) (fun _ _ h => h) (fun X A Q hZ hX C => ?_)
  replace C : Cx X (Yc cy ad E G A 3 Q) cX11_giveBack RX11 (some .int) rm_X11_giveBack (tyc cy) := C
  replace hZ : Zx Z X (Yc cy ad E G A 3 Q) := hZ
  show T X (Yc cy ad E G A 3 Q) (fun w => EndI X (Yc cy ad E G A 3 Q) cX11_giveBack rm_X11_giveBack .int w) 0 0 0 [(0, .ref (ad r0)), (1, vi x1)] [] σ (f_X11_giveBack N σ r0 x1)
  unfold f_X11_giveBack
  refine T_iload_n (pc := 0) C dX11_giveBack_0 rfl 1 rfl ?_
  refine T_if_lt (pc := 1) C 12 dX11_giveBack_1 rfl h1 (fun c1 => ?_) (fun c1 => ?_)
  · refine T_iconst (pc := 12) C dX11_giveBack_12 ?_
    exact T_iret (pc := 13) (σ, (-1)) (fun h9 => h9) (rngL rfl) (nar_I _) (by decide) dX11_giveBack_13
  · refine T_iload_n (pc := 4) C dX11_giveBack_4 rfl 1 rfl ?_
    refine T_aload_n (pc := 5) C dX11_giveBack_5 rfl 0 rfl ?_
    refine Tc_geti (pc := 6) C r0 11 1 6 k0 (by decide) (fun _ => rfl) rfl inX11 (by decide) rfl kc_244 dX11_giveBack_6 (fun z2 => ?_)
    refine T_icmp_lt (pc := 9) C 14 dX11_giveBack_9 rfl h1 z2 (fun c3 => ?_) (fun c3 => ?_)
    · refine T_aload_n (pc := 14) C dX11_giveBack_14 rfl 0 rfl ?_
      refine Tc_getr (pc := 15) C r0 11 0 6 k0 (by decide) (fun _ => rfl) rfl inX11 (by decide) (v := .ref (ad (r0 + 1))) rfl kc_249 dX11_giveBack_15 ?_
      refine T_iload_n (pc := 18) C dX11_giveBack_18 rfl 1 rfl ?_
      refine T_guard (fun g4 => ?_)
      refine Tc_ald28 (pc := 19) C (r0 + 1) x1.toNat (kd_11 k0) g4 rfl dX11_giveBack_19 (fun y5 => ?_)
      refine Tc_geti (pc := 20) C (σ (r0 + 1) x1.toNat).toNat 10 5 6 y5.2 (by decide) (fun _ => rfl) rfl inX10 (by decide) rfl kc_367 dX11_giveBack_20 (fun z6 => ?_)
      refine T_blV z6 (fun v7 hv7 => ?_)
      refine T_istore_n (pc := 23) (L' := [(2, vi v7), (0, .ref (ad r0)), (1, vi x1)]) C dX11_giveBack_23 rfl (Nat.le_of_ble_eq_true rfl) rfl ?_
      refine T_aload_n (pc := 24) C dX11_giveBack_24 rfl 1 rfl ?_
      refine T_dup (pc := 25) C dX11_giveBack_25 rfl ?_
      refine Tc_geti (pc := 26) C r0 11 3 6 k0 (by decide) (fun _ => rfl) rfl inX11 (by decide) rfl kc_246 dX11_giveBack_26 (fun z8 => ?_)
      refine T_iload_n (pc := 29) C dX11_giveBack_29 rfl 0 rfl ?_
      refine T_isub (pc := 30) C dX11_giveBack_30 ?_
      refine T_guard (fun g9 => ?_)
      refine Tc_put (pc := 31) C (ty := .int) r0 11 3 6 k0 (by decide) (fun _ => rfl) rfl inX11 (by decide) (fun _ => rfl) g9 tyX11 tyX11_ok nmX11 rfl (Nat.le_of_ble_eq_true rfl) kc_246 rfl (nar_I _) (fit_I _) dX11_giveBack_31 ?_
      refine T_blS (fun s10 => ?_)
      refine T_aload_n (pc := 34) C dX11_giveBack_34 rfl 1 rfl ?_
      refine T_dup (pc := 35) C dX11_giveBack_35 rfl ?_
      refine Tc_geti (pc := 36) C r0 11 4 6 k0 (by decide) (fun _ => rfl) rfl inX11 (by decide) rfl kc_247 dX11_giveBack_36 (fun z11 => ?_)
      refine T_iload_n (pc := 39) C dX11_giveBack_39 rfl 0 rfl ?_
      refine T_iadd (pc := 40) C dX11_giveBack_40 ?_
      refine T_guard (fun g12 => ?_)
      refine Tc_put (pc := 41) C (ty := .int) r0 11 4 6 k0 (by decide) (fun _ => rfl) rfl inX11 (by decide) (fun _ => rfl) g12 tyX11 tyX11_ok nmX11 rfl (Nat.le_of_ble_eq_true rfl) kc_247 rfl (nar_I _) (fit_I _) dX11_giveBack_41 ?_
      refine T_blS (fun s13 => ?_)
      refine T_aload_n (pc := 44) C dX11_giveBack_44 rfl 1 rfl ?_
      refine T_iload_n (pc := 45) C dX11_giveBack_45 rfl 2 rfl ?_
      refine T_czVv (pc := 46) zk.1 hZ C [vi x1] [] (fun o h9 hw => ct_X11_drop zk N s13 r0 x1 k0 h1 hw o h9) kc_435 cm_X11_drop (rcc k0 (by decide) (fun _ => rfl) rfl) rfl rfl (Nat.le_of_ble_eq_true rfl) (by decide) (a' := 0) (b' := 0) ⟨rfl, rfl⟩ dX11_giveBack_46 (fun s14 => ?_)
      refine T_iload_n (pc := 49) C dX11_giveBack_49 rfl 0 rfl ?_
      exact T_iret (pc := 50) (s14, v7) (fun h9 => h9) hv7 (nar_I _) (by decide) dX11_giveBack_50
    · refine T_iconst (pc := 12) C dX11_giveBack_12 ?_
      exact T_iret (pc := 13) (σ, (-1)) (fun h9 => h9) (rngL rfl) (nar_I _) (by decide) dX11_giveBack_13

abbrev rm_X11_placeOfId : Room := ⟨0, 0, 0, 0⟩
theorem cm_X11_placeOfId : cmV yX11_placeOfId cX11_placeOfId 3 (some .int) 1 := ⟨kc_86, kc_251, ⟨by decide +kernel, by decide +kernel, by decide +kernel⟩, kc_438, kc_439⟩
def f_X11_placeOfId_2 (σ : Sm) (r0 : Nat) (x1 : Int) : Nat → Int → Option (Int ⊕ Unit)
  | 0, _ => none
  | n + 1, x2 => (if (σ r0 1) ≤ x2 then some (.inr ()) else if 0 ≤ x2 ∧ x2 < 16 then (if (σ (σ (r0 + 1) x2.toNat).toNat 0) = x1 then some (.inl x2) else f_X11_placeOfId_2 σ r0 x1 n (x2 + 1)) else none)
theorem lp_X11_placeOfId_2 {X : vjX} {A : Nat → Prop} {Q : State → Prop} {cy : Nat → ClassId} {ad : Nat → Nat} {E : Nat → Nat → Nat} {G : va_G} {Z : vZ} (zk : Zk Z E) (hZ : Zx Z X (Yc cy ad E G A 3 Q)) (C : Cx X (Yc cy ad E G A 3 Q) cX11_placeOfId RX11 (some .int) rm_X11_placeOfId (tyc cy)) (σ : Sm) (r0 : Nat) (k0 : kd r0 = 11) (x1 : Int) (h1 : rng x1) : ∀ (n : Nat) (x2 : Int) (h2 : rng x2), T X (Yc cy ad E G A 3 Q) (Sum.elim (fun v => EndI X (Yc cy ad E G A 3 Q) cX11_placeOfId rm_X11_placeOfId .int (σ, v)) (fun (q : Unit) => True → J X (Yc cy ad E G A 3 Q) 0 0 31 [] [] σ)) 0 0 2 [(0, .ref (ad r0)), (1, vi x1), (2, vi x2)] [] σ (f_X11_placeOfId_2 σ r0 x1 n x2) := by
  intro n
  induction n with
  | zero => intro x2 h2; exact T_none
  | succ n ih =>
    intro x2 h2
    rw [f_X11_placeOfId_2]
    refine T_iload_n (pc := 2) C dX11_placeOfId_2 rfl 2 rfl ?_
    refine T_aload_n (pc := 3) C dX11_placeOfId_3 rfl 0 rfl ?_
    refine Tc_geti (pc := 4) C r0 11 1 6 k0 (by decide) (fun _ => rfl) rfl inX11 (by decide) rfl kc_244 dX11_placeOfId_4 (fun z7 => ?_)
    refine T_icmp_ge (pc := 7) C 31 dX11_placeOfId_7 rfl h2 z7 (fun c8 => ?_) (fun c8 => ?_)
    · refine T_sub (L' := []) [] rfl ?_
      exact T_exit (fun h9 => h9 trivial)
    · refine T_aload_n (pc := 10) C dX11_placeOfId_10 rfl 0 rfl ?_
      refine Tc_getr (pc := 11) C r0 11 0 6 k0 (by decide) (fun _ => rfl) rfl inX11 (by decide) (v := .ref (ad (r0 + 1))) rfl kc_249 dX11_placeOfId_11 ?_
      refine T_iload_n (pc := 14) C dX11_placeOfId_14 rfl 2 rfl ?_
      refine T_guard (fun g9 => ?_)
      refine Tc_ald28 (pc := 15) C (r0 + 1) x2.toNat (kd_11 k0) g9 rfl dX11_placeOfId_15 (fun y10 => ?_)
      refine Tc_geti (pc := 16) C (σ (r0 + 1) x2.toNat).toNat 10 0 6 y10.2 (by decide) (fun _ => rfl) rfl inX10 (by decide) rfl kc_365 dX11_placeOfId_16 (fun z11 => ?_)
      refine T_iload_n (pc := 19) C dX11_placeOfId_19 rfl 1 rfl ?_
      refine T_icmp_ne (pc := 20) C 25 dX11_placeOfId_20 rfl z11 h1 (fun c12 => ?_) (fun c12 => ?_)
      · refine T_iinc (pc := 25) (L' := [(2, vi (x2 + 1)), (0, .ref (ad r0)), (1, vi x1)]) C dX11_placeOfId_25 (Nat.le_of_ble_eq_true rfl) 2 rfl rfl ?_
        refine T_goto (pc := 28) C 2 dX11_placeOfId_28 rfl ?_
        refine T_sub (L' := [(0, .ref (ad r0)), (1, vi x1), (2, vi (x2 + 1))]) [1, 2, 0] rfl ?_
        exact ih (x2 + 1) (rng_inc c8 h2 z7)
      · refine T_iload_n (pc := 23) C dX11_placeOfId_23 rfl 2 rfl ?_
        exact T_iret (pc := 24) (Sum.inl x2) (fun h9 => h9) h2 (nar_I _) (by decide) dX11_placeOfId_24
def f_X11_placeOfId (N : Nat) (σ : Sm) (r0 : Nat) (x1 : Int) : Option Int :=
  (f_X11_placeOfId_2 σ r0 x1 N 0).bind (Sum.elim (fun v => some v) fun q13 => some (-1))
theorem ct_X11_placeOfId {l : Launch} {cy : Nat → ClassId} {ad : Nat → Nat} {E : Nat → Nat → Nat} {G : va_G} {Z : vZ} (zk : Zk Z E) (N : Nat) (σ : Sm) (r0 : Nat) (x1 : Int) (k0 : kd r0 = 11) (h1 : rng x1) (hw : wfc σ) (o : Int) (h : f_X11_placeOfId N σ r0 x1 = some o) : CzI Z l yX11_placeOfId cX11_placeOfId 3 (some .int) rm_X11_placeOfId (wlc cy ad E) wfc G (tyc cy) [.ref (ad r0), vi x1] σ σ o := by
  refine czI_of zk.1 (plainFor_of_name (by decide)) (Nat.le_of_ble_eq_true rfl) hw (σ, o) o h (fun X Y v => EndI X Y cX11_placeOfId rm_X11_placeOfId .int (σ, v)) (fun _ _ h => h) (fun X A Q hZ hX C => ?_)
  replace C : Cx X (Yc cy ad E G A 3 Q) cX11_placeOfId RX11 (some .int) rm_X11_placeOfId (tyc cy) := C
  replace hZ : Zx Z X (Yc cy ad E G A 3 Q) := hZ
  show T X (Yc cy ad E G A 3 Q) (fun v => EndI X (Yc cy ad E G A 3 Q) cX11_placeOfId rm_X11_placeOfId .int (σ, v)) 0 0 0 [(0, .ref (ad r0)), (1, vi x1)] [] σ (f_X11_placeOfId N σ r0 x1)
  unfold f_X11_placeOfId
  refine T_iconst (pc := 0) C dX11_placeOfId_0 ?_
  refine T_istore_n (pc := 1) (L' := [(2, vi 0), (0, .ref (ad r0)), (1, vi x1)]) C dX11_placeOfId_1 rfl (Nat.le_of_ble_eq_true rfl) rfl ?_
  refine T_sub (L' := [(0, .ref (ad r0)), (1, vi x1), (2, vi 0)]) [1, 2, 0] rfl ?_
  refine T_loopS (g := fun v => v) (lp_X11_placeOfId_2 zk hZ C σ r0 k0 x1 h1 N 0 (rngL rfl)) (fun v h9 => h9) (fun q13 hq13 => ?_)
  refine T_iconst (pc := 31) C dX11_placeOfId_31 ?_
  exact T_iret (pc := 32) (-1) (fun h9 => h9) (rngL rfl) (nar_I _) (by decide) dX11_placeOfId_32

abbrev rm_X11_priceSum : Room := ⟨0, 0, 0, 0⟩
theorem cm_X11_priceSum : cmV yX11_priceSum cX11_priceSum 3 (some .int) 0 := ⟨kc_90, kc_251, ⟨by decide +kernel, by decide +kernel, by decide +kernel⟩, kc_440, kc_441⟩
def f_X11_priceSum_4 (σ : Sm) (r0 : Nat) : Nat → Int → Int → Option (Int)
  | 0, _, _ => none
  | n + 1, x1, x2 => (if (σ r0 1) ≤ x2 then some x1 else if 0 ≤ x2 ∧ x2 < 16 then bl (x1 + (σ (σ (r0 + 1) x2.toNat).toNat 5)) fun v21 => if rng v21 then f_X11_priceSum_4 σ r0 n v21 (x2 + 1) else none else none)
theorem lp_X11_priceSum_4 {X : vjX} {A : Nat → Prop} {Q : State → Prop} {cy : Nat → ClassId} {ad : Nat → Nat} {E : Nat → Nat → Nat} {G : va_G} {Z : vZ} (zk : Zk Z E) (hZ : Zx Z X (Yc cy ad E G A 3 Q)) (C : Cx X (Yc cy ad E G A 3 Q) cX11_priceSum RX11 (some .int) rm_X11_priceSum (tyc cy)) (σ : Sm) (r0 : Nat) (k0 : kd r0 = 11) : ∀ (n : Nat) (x1 : Int) (x2 : Int) (h1 : rng x1) (h2 : rng x2), T X (Yc cy ad E G A 3 Q) (fun (q : Int) => rng q → J X (Yc cy ad E G A 3 Q) 0 0 30 [(1, vi q)] [] σ) 0 0 4 [(0, .ref (ad r0)), (1, vi x1), (2, vi x2)] [] σ (f_X11_priceSum_4 σ r0 n x1 x2) := by
  intro n
  induction n with
  | zero => intro x1 x2 h1 h2; exact T_none
  | succ n ih =>
    intro x1 x2 h1 h2
    rw [f_X11_priceSum_4]
    refine T_iload_n (pc := 4) C dX11_priceSum_4 rfl 2 rfl ?_
    refine T_aload_n (pc := 5) C dX11_priceSum_5 rfl 0 rfl ?_
    refine Tc_geti (pc := 6) C r0 11 1 6 k0 (by decide) (fun _ => rfl) rfl inX11 (by decide) rfl kc_244 dX11_priceSum_6 (fun z16 => ?_)
    refine T_icmp_ge (pc := 9) C 30 dX11_priceSum_9 rfl h2 z16 (fun c17 => ?_) (fun c17 => ?_)
    · refine T_sub (L' := [(1, vi x1)]) [1] rfl ?_
      exact T_exit (fun h9 => h9 h1)
    · refine T_iload_n (pc := 12) C dX11_priceSum_12 rfl 1 rfl ?_
      refine T_aload_n (pc := 13) C dX11_priceSum_13 rfl 0 rfl ?_
      refine Tc_getr (pc := 14) C r0 11 0 6 k0 (by decide) (fun _ => rfl) rfl inX11 (by decide) (v := .ref (ad (r0 + 1))) rfl kc_249 dX11_priceSum_14 ?_
      refine T_iload_n (pc := 17) C dX11_priceSum_17 rfl 2 rfl ?_
      refine T_guard (fun g18 => ?_)
      refine Tc_ald28 (pc := 18) C (r0 + 1) x2.toNat (kd_11 k0) g18 rfl dX11_priceSum_18 (fun y19 => ?_)
      refine Tc_geti (pc := 19) C (σ (r0 + 1) x2.toNat).toNat 10 5 6 y19.2 (by decide) (fun _ => rfl) rfl inX10 (by decide) rfl kc_367 dX11_priceSum_19 (fun z20 => ?_)
      refine T_iadd (pc := 22) C dX11_priceSum_22 ?_
      refine T_blN (fun v21 => ?_)
      refine T_istore_n (pc := 23) (L' := [(1, vi v21), (0, .ref (ad r0)), (2, vi x2)]) C dX11_priceSum_23 rfl (Nat.le_of_ble_eq_true rfl) rfl ?_
      refine T_iinc (pc := 24) (L' := [(2, vi (x2 + 1)), (1, vi v21), (0, .ref (ad r0))]) C dX11_priceSum_24 (Nat.le_of_ble_eq_true rfl) 2 rfl rfl ?_
      refine T_goto (pc := 27) C 4 dX11_priceSum_27 rfl ?_
      refine T_sub (L' := [(0, .ref (ad r0)), (1, vi v21), (2, vi (x2 + 1))]) [2, 1, 0] rfl ?_
      refine T_guard (fun g22 => ?_)
      exact ih v21 (x2 + 1) g22 (rng_inc c17 h2 z16)
def f_X11_priceSum (N : Nat) (σ : Sm) (r0 : Nat) : Option Int :=
  (f_X11_priceSum_4 σ r0 N 0 0).bind fun q23 => some q23
theorem ct_X11_priceSum {l : Launch} {cy : Nat → ClassId} {ad : Nat → Nat} {E : Nat → Nat → Nat} {G : va_G} {Z : vZ} (zk : Zk Z E) (N : Nat) (σ : Sm) (r0 : Nat) (k0 : kd r0 = 11) (hw : wfc σ) (o : Int) (h : f_X11_priceSum N σ r0 = some o) : CzI Z l yX11_priceSum cX11_priceSum 3 (some .int) rm_X11_priceSum (wlc cy ad E) wfc G (tyc cy) [.ref (ad r0)] σ σ o := by
  refine czI_of zk.1 (plainFor_of_name (by decide)) (Nat.le_of_ble_eq_true rfl) hw (σ, o) o h (fun X Y v => EndI X Y cX11_priceSum rm_X11_priceSum .int (σ, v)) (fun _ _ h => h) (fun X A Q hZ hX C => ?_)
  replace C : Cx X (Yc cy ad E G A 3 Q) cX11_priceSum RX11 (some .int) rm_X11_priceSum (tyc cy) := C
  replace hZ : Zx Z X (Yc cy ad E G A 3 Q) := hZ
  show T X (Yc cy ad E G A 3 Q) (fun v => EndI X (Yc cy ad E G A 3 Q) cX11_priceSum rm_X11_priceSum .int (σ, v)) 0 0 0 [(0, .ref (ad r0))] [] σ (f_X11_priceSum N σ r0)
  unfold f_X11_priceSum
  refine T_iconst (pc := 0) C dX11_priceSum_0 ?_
  refine T_istore_n (pc := 1) (L' := [(1, vi 0), (0, .ref (ad r0))]) C dX11_priceSum_1 rfl (Nat.le_of_ble_eq_true rfl) rfl ?_
  refine T_iconst (pc := 2) C dX11_priceSum_2 ?_
  refine T_istore_n (pc := 3) (L' := [(2, vi 0), (1, vi 0), (0, .ref (ad r0))]) C dX11_priceSum_3 rfl (Nat.le_of_ble_eq_true rfl) rfl ?_
  refine T_sub (L' := [(0, .ref (ad r0)), (1, vi 0), (2, vi 0)]) [2, 1, 0] rfl ?_
  refine T_loopE (lp_X11_priceSum_4 zk hZ C σ r0 k0 N 0 0 (rngL rfl) (rngL rfl)) (fun q23 hq23 => ?_)
  refine T_iload_n (pc := 30) C dX11_priceSum_30 rfl 0 rfl ?_
  exact T_iret (pc := 31) q23 (fun h9 => h9) hq23 (nar_I _) (by decide) dX11_priceSum_31
