/-! the law's loop, cases 56 and on -/
noncomputable def f_law_56 (sq : Nat) (xs : Nat → Int32) (N : Nat) (rec : SL → Int → Option Unit) (σ : SL) (i : Int) : Option Unit :=
  (f_L_errorPosition N σ ).bind fun v1 => (f_X13_errorPosition v1.1.2.1).bind fun v2 => (f_X13_thrown (v1.1.1, v2.1, v1.1.2.2).2.1).bind fun v3 => (if v3 = v1.2 then (if v1.2 = 0 then (if (lcm ((v1.1.1, v2.1, v1.1.2.2).2.2.1) v2.2) = 0 then rec (v1.1.1, v2.1, v1.1.2.2) (i + 5) else none) else rec (v1.1.1, v2.1, v1.1.2.2) (i + 5)) else none)
theorem lc_56 {X : vjX} {A : Nat → Prop} {Q : State → Prop} {cy : Nat → ClassId} {adc adm : Nat → Nat} {E : Nat → Nat → Nat} {G : va_G} {Z : vZ} {sa : Nat → Nat} {sc sq : Nat} {xs : Nat → Int32} (zk : Zk Z E) (zy : Zy Z E sa) (zs : ZS Z E) (zE : ZE Z) (zp : ZP Z) (zd : ZD Z E) (hst : X.2.1.stackTraces = false) (hZ : Zx Z X (YL cy adc adm E G A 9 Q)) (sx : SX X A sc sq xs) (hL : sq ≤ 2560) (C : Cx X (YL cy adc adm E G A 9 Q) cL_law RL (some .boolean) room_1 (tyL cy)) (N : Nat) (n : Nat) (rec : SL → Int → Option Unit) (ih : ∀ (σ : SL) (i : Int) (a bb : Nat), rng i → a + n * 1000 ≤ 600000 → bb + n * 13000 ≤ 7200000 → T X (YL cy adc adm E G A 9 Q) (fun (_ : Unit) => ∀ (q : SL) (a bb : Nat), a ≤ 600000 → bb ≤ 7200000 → J X (YL cy adc adm E G A 9 Q) a bb 3734 [] [] q) a bb 28 [(0, .ref sc), (1, .ref (adc 0)), (2, .ref (adm 0)), (3, .ref (adm 11)), (4, .ref (adm 12)), (5, vi i)] [] σ (rec σ i)) (σ : SL) (i : Int) (a bb : Nat) (hi : rng i) (hi0 : 0 ≤ i ∧ i < (sq : Int)) (ha : a + (n + 1) * 1000 ≤ 600000) (hb : bb + (n + 1) * 13000 ≤ 7200000) : T X (YL cy adc adm E G A 9 Q) (fun (_ : Unit) => ∀ (q : SL) (a bb : Nat), a ≤ 600000 → bb ≤ 7200000 → J X (YL cy adc adm E G A 9 Q) a bb 3734 [] [] q) a bb 3539 [(0, .ref sc), (1, .ref (adc 0)), (2, .ref (adm 0)), (3, .ref (adm 11)), (4, .ref (adm 12)), (5, vi i)] [] σ (f_law_56 sq xs N rec σ i) := by
  have hsl : sq ≤ 2147483647 := by omega
  have hsq : rng (sq : Int) := by unfold rng; omega
  unfold f_law_56
  refine T_aload_n (pc := 3539) C dL_law_3539 rfl 1 rfl ?_
  refine T_aload_n (pc := 3540) C dL_law_3540 rfl 3 rfl ?_
  refine T_lh (pc := 3541) zk.1 hZ C [.ref (adc 0), .ref (adm 11)] [] (fun o h9 hw => ct_L_errorPosition zk zy zs zE hst N σ  hw o h9) kq_113 cm_L_errorPosition rfl rfl (Nat.le_of_ble_eq_true rfl) ⟨⟨by decide, by decide⟩, by show _ + 1 ≤ room_1.cells; have := rmC1; omega, by show _ + 6 ≤ room_1.slots; have := rmS1; omega⟩ (a' := a + 1) (b' := bb + 6) ⟨rfl, rfl⟩ dL_law_3541 (fun v1 hv1 => ?_)
  refine T_istore (pc := 3544) (L' := [(6, vi v1.2), (0, .ref sc), (1, .ref (adc 0)), (2, .ref (adm 0)), (3, .ref (adm 11)), (4, .ref (adm 12)), (5, vi i)]) C dL_law_3544 (Nat.le_of_ble_eq_true rfl) rfl ?_
  refine T_aload_n (pc := 3546) C dL_law_3546 rfl 3 rfl ?_
  refine T_lmi (pc := 3547) C [] [] (fun o h9 hw => ct_X13_errorPosition v1.1.2.1 hw o h9) kq_114 cm_X13_errorPosition rcm rfl rfl (Nat.le_of_ble_eq_true rfl) ⟨⟨by decide, by decide⟩, by show _ + 0 ≤ room_1.cells; have := rmC1; omega, by show _ + 0 ≤ room_1.slots; have := rmS1; omega⟩ (a' := a + 1) (b' := bb + 6) ⟨rfl, rfl⟩ dL_law_3547 (fun v2 hv2 => ?_)
  refine T_istore (pc := 3550) (L' := [(7, vi v2.2), (6, vi v1.2), (0, .ref sc), (1, .ref (adc 0)), (2, .ref (adm 0)), (3, .ref (adm 11)), (4, .ref (adm 12)), (5, vi i)]) C dL_law_3550 (Nat.le_of_ble_eq_true rfl) rfl ?_
  refine T_aload_n (pc := 3552) C dL_law_3552 rfl 4 rfl ?_
  refine T_lmp (pc := 3553) C [] [] (fun o h9 hw => ct_X13_thrown (v1.1.1, v2.1, v1.1.2.2).2.1 hw o h9) kq_2 cm_X13_thrown rcm rfl rfl (Nat.le_of_ble_eq_true rfl) ⟨⟨by decide, by decide⟩, by show _ + 0 ≤ room_1.cells; have := rmC1; omega, by show _ + 0 ≤ room_1.slots; have := rmS1; omega⟩ (a' := a + 1) (b' := bb + 6) ⟨rfl, rfl⟩ dL_law_3553 (fun v3 hv3 => ?_)
  refine T_iload (pc := 3556) C dL_law_3556 1 rfl ?_
  refine T_icmp_eq (pc := 3558) C 3563 dL_law_3558 rfl hv3.1 hv1 (fun c4 => ?_) (fun c4 => ?_)
  · refine T_iload (pc := 3563) C dL_law_3563 1 rfl ?_
    refine T_if_ne (pc := 3565) C 3580 dL_law_3565 rfl hv1 (fun c5 => ?_) (fun c5 => ?_)
    · refine T_goto (pc := 3580) C 3728 dL_law_3580 rfl ?_
      refine T_iinc (pc := 3728) (L' := [(5, vi (i + 5)), (7, vi v2.2), (6, vi v1.2), (0, .ref sc), (1, .ref (adc 0)), (2, .ref (adm 0)), (3, .ref (adm 11)), (4, .ref (adm 12))]) C dL_law_3728 (Nat.le_of_ble_eq_true rfl) 7 rfl rfl ?_
      refine T_goto (pc := 3731) C 28 dL_law_3731 rfl ?_
      refine T_sub (L' := [(0, .ref sc), (1, .ref (adc 0)), (2, .ref (adm 0)), (3, .ref (adm 11)), (4, .ref (adm 12)), (5, vi (i + 5))]) [3, 4, 5, 6, 7, 0] rfl ?_
      exact ih (v1.1.1, v2.1, v1.1.2.2) (i + 5) _ _ (by unfold rng; omega) (stp (c := 1) ha (by decide)) (stp (c := 6) hb (by decide))
    · refine T_aload_n (pc := 3568) C dL_law_3568 rfl 5 rfl ?_
      refine T_iconst (pc := 3569) C dL_law_3569 ?_
      refine T_lald (pc := 3570) C dL_law_3570 (fun o6 => ?_)
      refine T_iload (pc := 3571) C dL_law_3571 0 rfl ?_
      refine T_i2l (pc := 3573) C hv2.1 dL_law_3573 ?_
      refine T_lcmp (pc := 3574) C o6 hv2.1 dL_law_3574 ?_
      refine T_if_eq (pc := 3575) C 3580 dL_law_3575 rfl (lcm_rng _ _) (fun c7 => ?_) (fun c7 => ?_)
      · refine T_goto (pc := 3580) C 3728 dL_law_3580 rfl ?_
        refine T_iinc (pc := 3728) (L' := [(5, vi (i + 5)), (7, vi v2.2), (6, vi v1.2), (0, .ref sc), (1, .ref (adc 0)), (2, .ref (adm 0)), (3, .ref (adm 11)), (4, .ref (adm 12))]) C dL_law_3728 (Nat.le_of_ble_eq_true rfl) 7 rfl rfl ?_
        refine T_goto (pc := 3731) C 28 dL_law_3731 rfl ?_
        refine T_sub (L' := [(0, .ref sc), (1, .ref (adc 0)), (2, .ref (adm 0)), (3, .ref (adm 11)), (4, .ref (adm 12)), (5, vi (i + 5))]) [3, 4, 5, 6, 7, 0] rfl ?_
        exact ih (v1.1.1, v2.1, v1.1.2.2) (i + 5) _ _ (by unfold rng; omega) (stp (c := 1) ha (by decide)) (stp (c := 6) hb (by decide))
      · refine T_iconst (pc := 3578) C dL_law_3578 ?_
        exact T_none
  · refine T_iconst (pc := 3561) C dL_law_3561 ?_
    exact T_none
noncomputable def f_law_57 (sq : Nat) (xs : Nat → Int32) (N : Nat) (rec : SL → Int → Option Unit) (σ : SL) (i : Int) : Option Unit :=
  (f_L_failedCommand N σ ).bind fun v1 => (f_X13_failedCommand v1.1.2.1).bind fun v2 => (f_X13_thrown (v1.1.1, v2.1, v1.1.2.2).2.1).bind fun v3 => (if v3 = v1.2 then (if v1.2 = 0 then (if (lcm ((v1.1.1, v2.1, v1.1.2.2).2.2.1) v2.2) = 0 then rec (v1.1.1, v2.1, v1.1.2.2) (i + 5) else none) else rec (v1.1.1, v2.1, v1.1.2.2) (i + 5)) else none)
theorem lc_57 {X : vjX} {A : Nat → Prop} {Q : State → Prop} {cy : Nat → ClassId} {adc adm : Nat → Nat} {E : Nat → Nat → Nat} {G : va_G} {Z : vZ} {sa : Nat → Nat} {sc sq : Nat} {xs : Nat → Int32} (zk : Zk Z E) (zy : Zy Z E sa) (zs : ZS Z E) (zE : ZE Z) (zp : ZP Z) (zd : ZD Z E) (hst : X.2.1.stackTraces = false) (hZ : Zx Z X (YL cy adc adm E G A 9 Q)) (sx : SX X A sc sq xs) (hL : sq ≤ 2560) (C : Cx X (YL cy adc adm E G A 9 Q) cL_law RL (some .boolean) room_1 (tyL cy)) (N : Nat) (n : Nat) (rec : SL → Int → Option Unit) (ih : ∀ (σ : SL) (i : Int) (a bb : Nat), rng i → a + n * 1000 ≤ 600000 → bb + n * 13000 ≤ 7200000 → T X (YL cy adc adm E G A 9 Q) (fun (_ : Unit) => ∀ (q : SL) (a bb : Nat), a ≤ 600000 → bb ≤ 7200000 → J X (YL cy adc adm E G A 9 Q) a bb 3734 [] [] q) a bb 28 [(0, .ref sc), (1, .ref (adc 0)), (2, .ref (adm 0)), (3, .ref (adm 11)), (4, .ref (adm 12)), (5, vi i)] [] σ (rec σ i)) (σ : SL) (i : Int) (a bb : Nat) (hi : rng i) (hi0 : 0 ≤ i ∧ i < (sq : Int)) (ha : a + (n + 1) * 1000 ≤ 600000) (hb : bb + (n + 1) * 13000 ≤ 7200000) : T X (YL cy adc adm E G A 9 Q) (fun (_ : Unit) => ∀ (q : SL) (a bb : Nat), a ≤ 600000 → bb ≤ 7200000 → J X (YL cy adc adm E G A 9 Q) a bb 3734 [] [] q) a bb 3583 [(0, .ref sc), (1, .ref (adc 0)), (2, .ref (adm 0)), (3, .ref (adm 11)), (4, .ref (adm 12)), (5, vi i)] [] σ (f_law_57 sq xs N rec σ i) := by
  have hsl : sq ≤ 2147483647 := by omega
  have hsq : rng (sq : Int) := by unfold rng; omega
  unfold f_law_57
  refine T_aload_n (pc := 3583) C dL_law_3583 rfl 1 rfl ?_
  refine T_aload_n (pc := 3584) C dL_law_3584 rfl 3 rfl ?_
  refine T_lh (pc := 3585) zk.1 hZ C [.ref (adc 0), .ref (adm 11)] [] (fun o h9 hw => ct_L_failedCommand zk zy zs zE hst N σ  hw o h9) kq_115 cm_L_failedCommand rfl rfl (Nat.le_of_ble_eq_true rfl) ⟨⟨by decide, by decide⟩, by show _ + 1 ≤ room_1.cells; have := rmC1; omega, by show _ + 6 ≤ room_1.slots; have := rmS1; omega⟩ (a' := a + 1) (b' := bb + 6) ⟨rfl, rfl⟩ dL_law_3585 (fun v1 hv1 => ?_)
  refine T_istore (pc := 3588) (L' := [(6, vi v1.2), (0, .ref sc), (1, .ref (adc 0)), (2, .ref (adm 0)), (3, .ref (adm 11)), (4, .ref (adm 12)), (5, vi i)]) C dL_law_3588 (Nat.le_of_ble_eq_true rfl) rfl ?_
  refine T_aload_n (pc := 3590) C dL_law_3590 rfl 3 rfl ?_
  refine T_lmi (pc := 3591) C [] [] (fun o h9 hw => ct_X13_failedCommand v1.1.2.1 hw o h9) kq_116 cm_X13_failedCommand rcm rfl rfl (Nat.le_of_ble_eq_true rfl) ⟨⟨by decide, by decide⟩, by show _ + 0 ≤ room_1.cells; have := rmC1; omega, by show _ + 0 ≤ room_1.slots; have := rmS1; omega⟩ (a' := a + 1) (b' := bb + 6) ⟨rfl, rfl⟩ dL_law_3591 (fun v2 hv2 => ?_)
  refine T_istore (pc := 3594) (L' := [(7, vi v2.2), (6, vi v1.2), (0, .ref sc), (1, .ref (adc 0)), (2, .ref (adm 0)), (3, .ref (adm 11)), (4, .ref (adm 12)), (5, vi i)]) C dL_law_3594 (Nat.le_of_ble_eq_true rfl) rfl ?_
  refine T_aload_n (pc := 3596) C dL_law_3596 rfl 4 rfl ?_
  refine T_lmp (pc := 3597) C [] [] (fun o h9 hw => ct_X13_thrown (v1.1.1, v2.1, v1.1.2.2).2.1 hw o h9) kq_2 cm_X13_thrown rcm rfl rfl (Nat.le_of_ble_eq_true rfl) ⟨⟨by decide, by decide⟩, by show _ + 0 ≤ room_1.cells; have := rmC1; omega, by show _ + 0 ≤ room_1.slots; have := rmS1; omega⟩ (a' := a + 1) (b' := bb + 6) ⟨rfl, rfl⟩ dL_law_3597 (fun v3 hv3 => ?_)
  refine T_iload (pc := 3600) C dL_law_3600 1 rfl ?_
  refine T_icmp_eq (pc := 3602) C 3607 dL_law_3602 rfl hv3.1 hv1 (fun c4 => ?_) (fun c4 => ?_)
  · refine T_iload (pc := 3607) C dL_law_3607 1 rfl ?_
    refine T_if_ne (pc := 3609) C 3624 dL_law_3609 rfl hv1 (fun c5 => ?_) (fun c5 => ?_)
    · refine T_goto (pc := 3624) C 3728 dL_law_3624 rfl ?_
      refine T_iinc (pc := 3728) (L' := [(5, vi (i + 5)), (7, vi v2.2), (6, vi v1.2), (0, .ref sc), (1, .ref (adc 0)), (2, .ref (adm 0)), (3, .ref (adm 11)), (4, .ref (adm 12))]) C dL_law_3728 (Nat.le_of_ble_eq_true rfl) 7 rfl rfl ?_
      refine T_goto (pc := 3731) C 28 dL_law_3731 rfl ?_
      refine T_sub (L' := [(0, .ref sc), (1, .ref (adc 0)), (2, .ref (adm 0)), (3, .ref (adm 11)), (4, .ref (adm 12)), (5, vi (i + 5))]) [3, 4, 5, 6, 7, 0] rfl ?_
      exact ih (v1.1.1, v2.1, v1.1.2.2) (i + 5) _ _ (by unfold rng; omega) (stp (c := 1) ha (by decide)) (stp (c := 6) hb (by decide))
    · refine T_aload_n (pc := 3612) C dL_law_3612 rfl 5 rfl ?_
      refine T_iconst (pc := 3613) C dL_law_3613 ?_
      refine T_lald (pc := 3614) C dL_law_3614 (fun o6 => ?_)
      refine T_iload (pc := 3615) C dL_law_3615 0 rfl ?_
      refine T_i2l (pc := 3617) C hv2.1 dL_law_3617 ?_
      refine T_lcmp (pc := 3618) C o6 hv2.1 dL_law_3618 ?_
      refine T_if_eq (pc := 3619) C 3624 dL_law_3619 rfl (lcm_rng _ _) (fun c7 => ?_) (fun c7 => ?_)
      · refine T_goto (pc := 3624) C 3728 dL_law_3624 rfl ?_
        refine T_iinc (pc := 3728) (L' := [(5, vi (i + 5)), (7, vi v2.2), (6, vi v1.2), (0, .ref sc), (1, .ref (adc 0)), (2, .ref (adm 0)), (3, .ref (adm 11)), (4, .ref (adm 12))]) C dL_law_3728 (Nat.le_of_ble_eq_true rfl) 7 rfl rfl ?_
        refine T_goto (pc := 3731) C 28 dL_law_3731 rfl ?_
        refine T_sub (L' := [(0, .ref sc), (1, .ref (adc 0)), (2, .ref (adm 0)), (3, .ref (adm 11)), (4, .ref (adm 12)), (5, vi (i + 5))]) [3, 4, 5, 6, 7, 0] rfl ?_
        exact ih (v1.1.1, v2.1, v1.1.2.2) (i + 5) _ _ (by unfold rng; omega) (stp (c := 1) ha (by decide)) (stp (c := 6) hb (by decide))
      · refine T_iconst (pc := 3622) C dL_law_3622 ?_
        exact T_none
  · refine T_iconst (pc := 3605) C dL_law_3605 ?_
    exact T_none
noncomputable def f_law_58 (sq : Nat) (xs : Nat → Int32) (N : Nat) (rec : SL → Int → Option Unit) (σ : SL) (i : Int) : Option Unit :=
  (f_L_undo N σ ).bind fun v1 => (f_X13_undo N v1.1.2.1).bind fun v2 => (f_X13_thrown (v1.1.1, v2.1, v1.1.2.2).2.1).bind fun v3 => (if v3 = v1.2 then (if v1.2 = 0 then (if (lcm ((v1.1.1, v2.1, v1.1.2.2).2.2.1) v2.2) = 0 then rec (v1.1.1, v2.1, v1.1.2.2) (i + 5) else none) else rec (v1.1.1, v2.1, v1.1.2.2) (i + 5)) else none)
theorem lc_58 {X : vjX} {A : Nat → Prop} {Q : State → Prop} {cy : Nat → ClassId} {adc adm : Nat → Nat} {E : Nat → Nat → Nat} {G : va_G} {Z : vZ} {sa : Nat → Nat} {sc sq : Nat} {xs : Nat → Int32} (zk : Zk Z E) (zy : Zy Z E sa) (zs : ZS Z E) (zE : ZE Z) (zp : ZP Z) (zd : ZD Z E) (hst : X.2.1.stackTraces = false) (hZ : Zx Z X (YL cy adc adm E G A 9 Q)) (sx : SX X A sc sq xs) (hL : sq ≤ 2560) (C : Cx X (YL cy adc adm E G A 9 Q) cL_law RL (some .boolean) room_1 (tyL cy)) (N : Nat) (n : Nat) (rec : SL → Int → Option Unit) (ih : ∀ (σ : SL) (i : Int) (a bb : Nat), rng i → a + n * 1000 ≤ 600000 → bb + n * 13000 ≤ 7200000 → T X (YL cy adc adm E G A 9 Q) (fun (_ : Unit) => ∀ (q : SL) (a bb : Nat), a ≤ 600000 → bb ≤ 7200000 → J X (YL cy adc adm E G A 9 Q) a bb 3734 [] [] q) a bb 28 [(0, .ref sc), (1, .ref (adc 0)), (2, .ref (adm 0)), (3, .ref (adm 11)), (4, .ref (adm 12)), (5, vi i)] [] σ (rec σ i)) (σ : SL) (i : Int) (a bb : Nat) (hi : rng i) (hi0 : 0 ≤ i ∧ i < (sq : Int)) (ha : a + (n + 1) * 1000 ≤ 600000) (hb : bb + (n + 1) * 13000 ≤ 7200000) : T X (YL cy adc adm E G A 9 Q) (fun (_ : Unit) => ∀ (q : SL) (a bb : Nat), a ≤ 600000 → bb ≤ 7200000 → J X (YL cy adc adm E G A 9 Q) a bb 3734 [] [] q) a bb 3627 [(0, .ref sc), (1, .ref (adc 0)), (2, .ref (adm 0)), (3, .ref (adm 11)), (4, .ref (adm 12)), (5, vi i)] [] σ (f_law_58 sq xs N rec σ i) := by
  have hsl : sq ≤ 2147483647 := by omega
  have hsq : rng (sq : Int) := by unfold rng; omega
  unfold f_law_58
  refine T_aload_n (pc := 3627) C dL_law_3627 rfl 1 rfl ?_
  refine T_aload_n (pc := 3628) C dL_law_3628 rfl 3 rfl ?_
  refine T_lh (pc := 3629) zk.1 hZ C [.ref (adc 0), .ref (adm 11)] [] (fun o h9 hw => ct_L_undo zk zy zs zE hst N σ  hw o h9) kq_117 cm_L_undo rfl rfl (Nat.le_of_ble_eq_true rfl) ⟨⟨by decide, by decide⟩, by show _ + 1 ≤ room_1.cells; have := rmC1; omega, by show _ + 6 ≤ room_1.slots; have := rmS1; omega⟩ (a' := a + 1) (b' := bb + 6) ⟨rfl, rfl⟩ dL_law_3629 (fun v1 hv1 => ?_)
  refine T_istore (pc := 3632) (L' := [(6, vi v1.2), (0, .ref sc), (1, .ref (adc 0)), (2, .ref (adm 0)), (3, .ref (adm 11)), (4, .ref (adm 12)), (5, vi i)]) C dL_law_3632 (Nat.le_of_ble_eq_true rfl) rfl ?_
  refine T_aload_n (pc := 3634) C dL_law_3634 rfl 3 rfl ?_
  refine T_lmi (pc := 3635) C [] [] (fun o h9 hw => ct_X13_undo N v1.1.2.1 hw o h9) kq_118 cm_X13_undo rcm rfl rfl (Nat.le_of_ble_eq_true rfl) ⟨⟨by decide, by decide⟩, by show _ + 0 ≤ room_1.cells; have := rmC1; omega, by show _ + 0 ≤ room_1.slots; have := rmS1; omega⟩ (a' := a + 1) (b' := bb + 6) ⟨rfl, rfl⟩ dL_law_3635 (fun v2 hv2 => ?_)
  refine T_istore (pc := 3638) (L' := [(7, vi v2.2), (6, vi v1.2), (0, .ref sc), (1, .ref (adc 0)), (2, .ref (adm 0)), (3, .ref (adm 11)), (4, .ref (adm 12)), (5, vi i)]) C dL_law_3638 (Nat.le_of_ble_eq_true rfl) rfl ?_
  refine T_aload_n (pc := 3640) C dL_law_3640 rfl 4 rfl ?_
  refine T_lmp (pc := 3641) C [] [] (fun o h9 hw => ct_X13_thrown (v1.1.1, v2.1, v1.1.2.2).2.1 hw o h9) kq_2 cm_X13_thrown rcm rfl rfl (Nat.le_of_ble_eq_true rfl) ⟨⟨by decide, by decide⟩, by show _ + 0 ≤ room_1.cells; have := rmC1; omega, by show _ + 0 ≤ room_1.slots; have := rmS1; omega⟩ (a' := a + 1) (b' := bb + 6) ⟨rfl, rfl⟩ dL_law_3641 (fun v3 hv3 => ?_)
  refine T_iload (pc := 3644) C dL_law_3644 1 rfl ?_
  refine T_icmp_eq (pc := 3646) C 3651 dL_law_3646 rfl hv3.1 hv1 (fun c4 => ?_) (fun c4 => ?_)
  · refine T_iload (pc := 3651) C dL_law_3651 1 rfl ?_
    refine T_if_ne (pc := 3653) C 3668 dL_law_3653 rfl hv1 (fun c5 => ?_) (fun c5 => ?_)
    · refine T_goto (pc := 3668) C 3728 dL_law_3668 rfl ?_
      refine T_iinc (pc := 3728) (L' := [(5, vi (i + 5)), (7, vi v2.2), (6, vi v1.2), (0, .ref sc), (1, .ref (adc 0)), (2, .ref (adm 0)), (3, .ref (adm 11)), (4, .ref (adm 12))]) C dL_law_3728 (Nat.le_of_ble_eq_true rfl) 7 rfl rfl ?_
      refine T_goto (pc := 3731) C 28 dL_law_3731 rfl ?_
      refine T_sub (L' := [(0, .ref sc), (1, .ref (adc 0)), (2, .ref (adm 0)), (3, .ref (adm 11)), (4, .ref (adm 12)), (5, vi (i + 5))]) [3, 4, 5, 6, 7, 0] rfl ?_
      exact ih (v1.1.1, v2.1, v1.1.2.2) (i + 5) _ _ (by unfold rng; omega) (stp (c := 1) ha (by decide)) (stp (c := 6) hb (by decide))
    · refine T_aload_n (pc := 3656) C dL_law_3656 rfl 5 rfl ?_
      refine T_iconst (pc := 3657) C dL_law_3657 ?_
      refine T_lald (pc := 3658) C dL_law_3658 (fun o6 => ?_)
      refine T_iload (pc := 3659) C dL_law_3659 0 rfl ?_
      refine T_i2l (pc := 3661) C hv2.1 dL_law_3661 ?_
      refine T_lcmp (pc := 3662) C o6 hv2.1 dL_law_3662 ?_
      refine T_if_eq (pc := 3663) C 3668 dL_law_3663 rfl (lcm_rng _ _) (fun c7 => ?_) (fun c7 => ?_)
      · refine T_goto (pc := 3668) C 3728 dL_law_3668 rfl ?_
        refine T_iinc (pc := 3728) (L' := [(5, vi (i + 5)), (7, vi v2.2), (6, vi v1.2), (0, .ref sc), (1, .ref (adc 0)), (2, .ref (adm 0)), (3, .ref (adm 11)), (4, .ref (adm 12))]) C dL_law_3728 (Nat.le_of_ble_eq_true rfl) 7 rfl rfl ?_
        refine T_goto (pc := 3731) C 28 dL_law_3731 rfl ?_
        refine T_sub (L' := [(0, .ref sc), (1, .ref (adc 0)), (2, .ref (adm 0)), (3, .ref (adm 11)), (4, .ref (adm 12)), (5, vi (i + 5))]) [3, 4, 5, 6, 7, 0] rfl ?_
        exact ih (v1.1.1, v2.1, v1.1.2.2) (i + 5) _ _ (by unfold rng; omega) (stp (c := 1) ha (by decide)) (stp (c := 6) hb (by decide))
      · refine T_iconst (pc := 3666) C dL_law_3666 ?_
        exact T_none
  · refine T_iconst (pc := 3649) C dL_law_3649 ?_
    exact T_none
noncomputable def f_law_59 (sq : Nat) (xs : Nat → Int32) (N : Nat) (rec : SL → Int → Option Unit) (σ : SL) (i : Int) : Option Unit :=
  (f_X12_save N σ.1).bind fun v1 => (f_X13_save N (v1.1, σ.2).2.1).bind fun v2 => (if v1.2 = v2.2 then rec ((v1.1, σ.2).1, v2.1, (v1.1, σ.2).2.2) (i + 5) else none)
theorem lc_59 {X : vjX} {A : Nat → Prop} {Q : State → Prop} {cy : Nat → ClassId} {adc adm : Nat → Nat} {E : Nat → Nat → Nat} {G : va_G} {Z : vZ} {sa : Nat → Nat} {sc sq : Nat} {xs : Nat → Int32} (zk : Zk Z E) (zy : Zy Z E sa) (zs : ZS Z E) (zE : ZE Z) (zp : ZP Z) (zd : ZD Z E) (hst : X.2.1.stackTraces = false) (hZ : Zx Z X (YL cy adc adm E G A 9 Q)) (sx : SX X A sc sq xs) (hL : sq ≤ 2560) (C : Cx X (YL cy adc adm E G A 9 Q) cL_law RL (some .boolean) room_1 (tyL cy)) (N : Nat) (n : Nat) (rec : SL → Int → Option Unit) (ih : ∀ (σ : SL) (i : Int) (a bb : Nat), rng i → a + n * 1000 ≤ 600000 → bb + n * 13000 ≤ 7200000 → T X (YL cy adc adm E G A 9 Q) (fun (_ : Unit) => ∀ (q : SL) (a bb : Nat), a ≤ 600000 → bb ≤ 7200000 → J X (YL cy adc adm E G A 9 Q) a bb 3734 [] [] q) a bb 28 [(0, .ref sc), (1, .ref (adc 0)), (2, .ref (adm 0)), (3, .ref (adm 11)), (4, .ref (adm 12)), (5, vi i)] [] σ (rec σ i)) (σ : SL) (i : Int) (a bb : Nat) (hi : rng i) (hi0 : 0 ≤ i ∧ i < (sq : Int)) (ha : a + (n + 1) * 1000 ≤ 600000) (hb : bb + (n + 1) * 13000 ≤ 7200000) : T X (YL cy adc adm E G A 9 Q) (fun (_ : Unit) => ∀ (q : SL) (a bb : Nat), a ≤ 600000 → bb ≤ 7200000 → J X (YL cy adc adm E G A 9 Q) a bb 3734 [] [] q) a bb 3671 [(0, .ref sc), (1, .ref (adc 0)), (2, .ref (adm 0)), (3, .ref (adm 11)), (4, .ref (adm 12)), (5, vi i)] [] σ (f_law_59 sq xs N rec σ i) := by
  have hsl : sq ≤ 2147483647 := by omega
  have hsq : rng (sq : Int) := by unfold rng; omega
  unfold f_law_59
  refine T_aload_n (pc := 3671) C dL_law_3671 rfl 1 rfl ?_
  refine T_lz (pc := 3672) zk.1 hZ C [] [] (fun o h9 hw => ct_X12_save zk zy N σ.1 hw o h9) kq_119 cm_X12_save (rcc (rfl : kd 0 = 12) (by decide) (fun _ => rfl) rfl) rfl rfl (Nat.le_of_ble_eq_true rfl) ⟨⟨by decide, by decide⟩, by show _ + 0 ≤ room_1.cells; have := rmC1; omega, by show _ + 0 ≤ room_1.slots; have := rmS1; omega⟩ (a' := a + 0) (b' := bb + 0) ⟨rfl, rfl⟩ dL_law_3672 (fun v1 hv1 => ?_)
  refine T_aload_n (pc := 3675) C dL_law_3675 rfl 2 rfl ?_
  refine T_lmi (pc := 3676) C [] [vi v1.2] (fun o h9 hw => ct_X13_save N (v1.1, σ.2).2.1 hw o h9) kq_120 cm_X13_save rcm rfl rfl (Nat.le_of_ble_eq_true rfl) ⟨⟨by decide, by decide⟩, by show _ + 0 ≤ room_1.cells; have := rmC1; omega, by show _ + 0 ≤ room_1.slots; have := rmS1; omega⟩ (a' := a + 0) (b' := bb + 0) ⟨rfl, rfl⟩ dL_law_3676 (fun v2 hv2 => ?_)
  refine T_icmp_eq (pc := 3679) C 3728 dL_law_3679 rfl hv1.1 hv2.1 (fun c3 => ?_) (fun c3 => ?_)
  · refine T_iinc (pc := 3728) (L' := [(5, vi (i + 5)), (0, .ref sc), (1, .ref (adc 0)), (2, .ref (adm 0)), (3, .ref (adm 11)), (4, .ref (adm 12))]) C dL_law_3728 (Nat.le_of_ble_eq_true rfl) 5 rfl rfl ?_
    refine T_goto (pc := 3731) C 28 dL_law_3731 rfl ?_
    refine T_sub (L' := [(0, .ref sc), (1, .ref (adc 0)), (2, .ref (adm 0)), (3, .ref (adm 11)), (4, .ref (adm 12)), (5, vi (i + 5))]) [1, 2, 3, 4, 5, 0] rfl ?_
    exact ih ((v1.1, σ.2).1, v2.1, (v1.1, σ.2).2.2) (i + 5) _ _ (by unfold rng; omega) (stp (c := 0) ha (by decide)) (stp (c := 0) hb (by decide))
  · refine T_iconst (pc := 3682) C dL_law_3682 ?_
    exact T_none
noncomputable def f_law_60 (sq : Nat) (xs : Nat → Int32) (N : Nat) (rec : SL → Int → Option Unit) (σ : SL) (i : Int) : Option Unit :=
  (f_L_restore N σ ).bind fun v1 => (f_X13_restore N v1.1.2.1).bind fun v2 => (f_X13_thrown (v1.1.1, v2.1, v1.1.2.2).2.1).bind fun v3 => (if v3 = v1.2 then (if v1.2 = 0 then (if (lcm ((v1.1.1, v2.1, v1.1.2.2).2.2.1) v2.2) = 0 then rec (v1.1.1, v2.1, v1.1.2.2) (i + 5) else none) else rec (v1.1.1, v2.1, v1.1.2.2) (i + 5)) else none)
theorem lc_60 {X : vjX} {A : Nat → Prop} {Q : State → Prop} {cy : Nat → ClassId} {adc adm : Nat → Nat} {E : Nat → Nat → Nat} {G : va_G} {Z : vZ} {sa : Nat → Nat} {sc sq : Nat} {xs : Nat → Int32} (zk : Zk Z E) (zy : Zy Z E sa) (zs : ZS Z E) (zE : ZE Z) (zp : ZP Z) (zd : ZD Z E) (hst : X.2.1.stackTraces = false) (hZ : Zx Z X (YL cy adc adm E G A 9 Q)) (sx : SX X A sc sq xs) (hL : sq ≤ 2560) (C : Cx X (YL cy adc adm E G A 9 Q) cL_law RL (some .boolean) room_1 (tyL cy)) (N : Nat) (n : Nat) (rec : SL → Int → Option Unit) (ih : ∀ (σ : SL) (i : Int) (a bb : Nat), rng i → a + n * 1000 ≤ 600000 → bb + n * 13000 ≤ 7200000 → T X (YL cy adc adm E G A 9 Q) (fun (_ : Unit) => ∀ (q : SL) (a bb : Nat), a ≤ 600000 → bb ≤ 7200000 → J X (YL cy adc adm E G A 9 Q) a bb 3734 [] [] q) a bb 28 [(0, .ref sc), (1, .ref (adc 0)), (2, .ref (adm 0)), (3, .ref (adm 11)), (4, .ref (adm 12)), (5, vi i)] [] σ (rec σ i)) (σ : SL) (i : Int) (a bb : Nat) (hi : rng i) (hi0 : 0 ≤ i ∧ i < (sq : Int)) (ha : a + (n + 1) * 1000 ≤ 600000) (hb : bb + (n + 1) * 13000 ≤ 7200000) : T X (YL cy adc adm E G A 9 Q) (fun (_ : Unit) => ∀ (q : SL) (a bb : Nat), a ≤ 600000 → bb ≤ 7200000 → J X (YL cy adc adm E G A 9 Q) a bb 3734 [] [] q) a bb 3684 [(0, .ref sc), (1, .ref (adc 0)), (2, .ref (adm 0)), (3, .ref (adm 11)), (4, .ref (adm 12)), (5, vi i)] [] σ (f_law_60 sq xs N rec σ i) := by
  have hsl : sq ≤ 2147483647 := by omega
  have hsq : rng (sq : Int) := by unfold rng; omega
  unfold f_law_60
  refine T_aload_n (pc := 3684) C dL_law_3684 rfl 1 rfl ?_
  refine T_aload_n (pc := 3685) C dL_law_3685 rfl 3 rfl ?_
  refine T_lh (pc := 3686) zk.1 hZ C [.ref (adc 0), .ref (adm 11)] [] (fun o h9 hw => ct_L_restore zk zy zs zE hst N σ  hw o h9) kq_121 cm_L_restore rfl rfl (Nat.le_of_ble_eq_true rfl) ⟨⟨by decide, by decide⟩, by show _ + 1 ≤ room_1.cells; have := rmC1; omega, by show _ + 6 ≤ room_1.slots; have := rmS1; omega⟩ (a' := a + 1) (b' := bb + 6) ⟨rfl, rfl⟩ dL_law_3686 (fun v1 hv1 => ?_)
  refine T_istore (pc := 3689) (L' := [(6, vi v1.2), (0, .ref sc), (1, .ref (adc 0)), (2, .ref (adm 0)), (3, .ref (adm 11)), (4, .ref (adm 12)), (5, vi i)]) C dL_law_3689 (Nat.le_of_ble_eq_true rfl) rfl ?_
  refine T_aload_n (pc := 3691) C dL_law_3691 rfl 3 rfl ?_
  refine T_lmi (pc := 3692) C [] [] (fun o h9 hw => ct_X13_restore N v1.1.2.1 hw o h9) kq_122 cm_X13_restore rcm rfl rfl (Nat.le_of_ble_eq_true rfl) ⟨⟨by decide, by decide⟩, by show _ + 0 ≤ room_1.cells; have := rmC1; omega, by show _ + 0 ≤ room_1.slots; have := rmS1; omega⟩ (a' := a + 1) (b' := bb + 6) ⟨rfl, rfl⟩ dL_law_3692 (fun v2 hv2 => ?_)
  refine T_istore (pc := 3695) (L' := [(7, vi v2.2), (6, vi v1.2), (0, .ref sc), (1, .ref (adc 0)), (2, .ref (adm 0)), (3, .ref (adm 11)), (4, .ref (adm 12)), (5, vi i)]) C dL_law_3695 (Nat.le_of_ble_eq_true rfl) rfl ?_
  refine T_aload_n (pc := 3697) C dL_law_3697 rfl 4 rfl ?_
  refine T_lmp (pc := 3698) C [] [] (fun o h9 hw => ct_X13_thrown (v1.1.1, v2.1, v1.1.2.2).2.1 hw o h9) kq_2 cm_X13_thrown rcm rfl rfl (Nat.le_of_ble_eq_true rfl) ⟨⟨by decide, by decide⟩, by show _ + 0 ≤ room_1.cells; have := rmC1; omega, by show _ + 0 ≤ room_1.slots; have := rmS1; omega⟩ (a' := a + 1) (b' := bb + 6) ⟨rfl, rfl⟩ dL_law_3698 (fun v3 hv3 => ?_)
  refine T_iload (pc := 3701) C dL_law_3701 1 rfl ?_
  refine T_icmp_eq (pc := 3703) C 3708 dL_law_3703 rfl hv3.1 hv1 (fun c4 => ?_) (fun c4 => ?_)
  · refine T_iload (pc := 3708) C dL_law_3708 1 rfl ?_
    refine T_if_ne (pc := 3710) C 3725 dL_law_3710 rfl hv1 (fun c5 => ?_) (fun c5 => ?_)
    · refine T_goto (pc := 3725) C 3728 dL_law_3725 rfl ?_
      refine T_iinc (pc := 3728) (L' := [(5, vi (i + 5)), (7, vi v2.2), (6, vi v1.2), (0, .ref sc), (1, .ref (adc 0)), (2, .ref (adm 0)), (3, .ref (adm 11)), (4, .ref (adm 12))]) C dL_law_3728 (Nat.le_of_ble_eq_true rfl) 7 rfl rfl ?_
      refine T_goto (pc := 3731) C 28 dL_law_3731 rfl ?_
      refine T_sub (L' := [(0, .ref sc), (1, .ref (adc 0)), (2, .ref (adm 0)), (3, .ref (adm 11)), (4, .ref (adm 12)), (5, vi (i + 5))]) [3, 4, 5, 6, 7, 0] rfl ?_
      exact ih (v1.1.1, v2.1, v1.1.2.2) (i + 5) _ _ (by unfold rng; omega) (stp (c := 1) ha (by decide)) (stp (c := 6) hb (by decide))
    · refine T_aload_n (pc := 3713) C dL_law_3713 rfl 5 rfl ?_
      refine T_iconst (pc := 3714) C dL_law_3714 ?_
      refine T_lald (pc := 3715) C dL_law_3715 (fun o6 => ?_)
      refine T_iload (pc := 3716) C dL_law_3716 0 rfl ?_
      refine T_i2l (pc := 3718) C hv2.1 dL_law_3718 ?_
      refine T_lcmp (pc := 3719) C o6 hv2.1 dL_law_3719 ?_
      refine T_if_eq (pc := 3720) C 3725 dL_law_3720 rfl (lcm_rng _ _) (fun c7 => ?_) (fun c7 => ?_)
      · refine T_goto (pc := 3725) C 3728 dL_law_3725 rfl ?_
        refine T_iinc (pc := 3728) (L' := [(5, vi (i + 5)), (7, vi v2.2), (6, vi v1.2), (0, .ref sc), (1, .ref (adc 0)), (2, .ref (adm 0)), (3, .ref (adm 11)), (4, .ref (adm 12))]) C dL_law_3728 (Nat.le_of_ble_eq_true rfl) 7 rfl rfl ?_
        refine T_goto (pc := 3731) C 28 dL_law_3731 rfl ?_
        refine T_sub (L' := [(0, .ref sc), (1, .ref (adc 0)), (2, .ref (adm 0)), (3, .ref (adm 11)), (4, .ref (adm 12)), (5, vi (i + 5))]) [3, 4, 5, 6, 7, 0] rfl ?_
        exact ih (v1.1.1, v2.1, v1.1.2.2) (i + 5) _ _ (by unfold rng; omega) (stp (c := 1) ha (by decide)) (stp (c := 6) hb (by decide))
      · refine T_iconst (pc := 3723) C dL_law_3723 ?_
        exact T_none
  · refine T_iconst (pc := 3706) C dL_law_3706 ?_
    exact T_none
noncomputable def f_law_61 (sq : Nat) (xs : Nat → Int32) (N : Nat) (rec : SL → Int → Option Unit) (σ : SL) (i : Int) : Option Unit :=
  rec σ (i + 5)
theorem lc_61 {X : vjX} {A : Nat → Prop} {Q : State → Prop} {cy : Nat → ClassId} {adc adm : Nat → Nat} {E : Nat → Nat → Nat} {G : va_G} {Z : vZ} {sa : Nat → Nat} {sc sq : Nat} {xs : Nat → Int32} (zk : Zk Z E) (zy : Zy Z E sa) (zs : ZS Z E) (zE : ZE Z) (zp : ZP Z) (zd : ZD Z E) (hst : X.2.1.stackTraces = false) (hZ : Zx Z X (YL cy adc adm E G A 9 Q)) (sx : SX X A sc sq xs) (hL : sq ≤ 2560) (C : Cx X (YL cy adc adm E G A 9 Q) cL_law RL (some .boolean) room_1 (tyL cy)) (N : Nat) (n : Nat) (rec : SL → Int → Option Unit) (ih : ∀ (σ : SL) (i : Int) (a bb : Nat), rng i → a + n * 1000 ≤ 600000 → bb + n * 13000 ≤ 7200000 → T X (YL cy adc adm E G A 9 Q) (fun (_ : Unit) => ∀ (q : SL) (a bb : Nat), a ≤ 600000 → bb ≤ 7200000 → J X (YL cy adc adm E G A 9 Q) a bb 3734 [] [] q) a bb 28 [(0, .ref sc), (1, .ref (adc 0)), (2, .ref (adm 0)), (3, .ref (adm 11)), (4, .ref (adm 12)), (5, vi i)] [] σ (rec σ i)) (σ : SL) (i : Int) (a bb : Nat) (hi : rng i) (hi0 : 0 ≤ i ∧ i < (sq : Int)) (ha : a + (n + 1) * 1000 ≤ 600000) (hb : bb + (n + 1) * 13000 ≤ 7200000) : T X (YL cy adc adm E G A 9 Q) (fun (_ : Unit) => ∀ (q : SL) (a bb : Nat), a ≤ 600000 → bb ≤ 7200000 → J X (YL cy adc adm E G A 9 Q) a bb 3734 [] [] q) a bb 3728 [(0, .ref sc), (1, .ref (adc 0)), (2, .ref (adm 0)), (3, .ref (adm 11)), (4, .ref (adm 12)), (5, vi i)] [] σ (f_law_61 sq xs N rec σ i) := by
  have hsl : sq ≤ 2147483647 := by omega
  have hsq : rng (sq : Int) := by unfold rng; omega
  unfold f_law_61
  refine T_iinc (pc := 3728) (L' := [(5, vi (i + 5)), (0, .ref sc), (1, .ref (adc 0)), (2, .ref (adm 0)), (3, .ref (adm 11)), (4, .ref (adm 12))]) C dL_law_3728 (Nat.le_of_ble_eq_true rfl) 5 rfl rfl ?_
  refine T_goto (pc := 3731) C 28 dL_law_3731 rfl ?_
  refine T_sub (L' := [(0, .ref sc), (1, .ref (adc 0)), (2, .ref (adm 0)), (3, .ref (adm 11)), (4, .ref (adm 12)), (5, vi (i + 5))]) [1, 2, 3, 4, 5, 0] rfl ?_
  exact ih σ (i + 5) _ _ (by unfold rng; omega) (stp (c := 0) ha (by decide)) (stp (c := 0) hb (by decide))
