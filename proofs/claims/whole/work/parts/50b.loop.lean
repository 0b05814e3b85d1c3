/-! the law's loop, cases 8 and on -/
noncomputable def f_law_8 (sq : Nat) (xs : Nat → Int32) (N : Nat) (rec : SL → Int → Option Unit) (σ : SL) (i : Int) : Option Unit :=
  if 0 ≤ (i + 1) ∧ (i + 1) < (sq : Int) then if 0 ≤ (i + 2) ∧ (i + 2) < (sq : Int) then (if (scv xs (i + 2)) = 0 then (f_L_setClosed N σ (scv xs (i + 1)) 0).bind fun v4 => (if (scv xs (i + 2)) = 0 then (f_X13_setClosed N v4.1.2.1 (scv xs (i + 1)) 0).bind fun v6 => (f_X13_thrown (v4.1.1, v6.1, v4.1.2.2).2.1).bind fun v7 => (if v7 = v4.2 then (if v4.2 = 0 then (if v6.2 = 0 then (if (lcm ((v4.1.1, v6.1, v4.1.2.2).2.2.1) 0) = 0 then rec (v4.1.1, v6.1, v4.1.2.2) (i + 5) else none) else (if (lcm ((v4.1.1, v6.1, v4.1.2.2).2.2.1) 1) = 0 then rec (v4.1.1, v6.1, v4.1.2.2) (i + 5) else none)) else rec (v4.1.1, v6.1, v4.1.2.2) (i + 5)) else none) else (f_X13_setClosed N v4.1.2.1 (scv xs (i + 1)) 1).bind fun v14 => (f_X13_thrown (v4.1.1, v14.1, v4.1.2.2).2.1).bind fun v15 => (if v15 = v4.2 then (if v4.2 = 0 then (if v14.2 = 0 then (if (lcm ((v4.1.1, v14.1, v4.1.2.2).2.2.1) 0) = 0 then rec (v4.1.1, v14.1, v4.1.2.2) (i + 5) else none) else (if (lcm ((v4.1.1, v14.1, v4.1.2.2).2.2.1) 1) = 0 then rec (v4.1.1, v14.1, v4.1.2.2) (i + 5) else none)) else rec (v4.1.1, v14.1, v4.1.2.2) (i + 5)) else none)) else (f_L_setClosed N σ (scv xs (i + 1)) 1).bind fun v22 => (if (scv xs (i + 2)) = 0 then (f_X13_setClosed N v22.1.2.1 (scv xs (i + 1)) 0).bind fun v24 => (f_X13_thrown (v22.1.1, v24.1, v22.1.2.2).2.1).bind fun v25 => (if v25 = v22.2 then (if v22.2 = 0 then (if v24.2 = 0 then (if (lcm ((v22.1.1, v24.1, v22.1.2.2).2.2.1) 0) = 0 then rec (v22.1.1, v24.1, v22.1.2.2) (i + 5) else none) else (if (lcm ((v22.1.1, v24.1, v22.1.2.2).2.2.1) 1) = 0 then rec (v22.1.1, v24.1, v22.1.2.2) (i + 5) else none)) else rec (v22.1.1, v24.1, v22.1.2.2) (i + 5)) else none) else (f_X13_setClosed N v22.1.2.1 (scv xs (i + 1)) 1).bind fun v32 => (f_X13_thrown (v22.1.1, v32.1, v22.1.2.2).2.1).bind fun v33 => (if v33 = v22.2 then (if v22.2 = 0 then (if v32.2 = 0 then (if (lcm ((v22.1.1, v32.1, v22.1.2.2).2.2.1) 0) = 0 then rec (v22.1.1, v32.1, v22.1.2.2) (i + 5) else none) else (if (lcm ((v22.1.1, v32.1, v22.1.2.2).2.2.1) 1) = 0 then rec (v22.1.1, v32.1, v22.1.2.2) (i + 5) else none)) else rec (v22.1.1, v32.1, v22.1.2.2) (i + 5)) else none))) else none else none
theorem lc_8 {X : vjX} {A : Nat → Prop} {Q : State → Prop} {cy : Nat → ClassId} {adc adm : Nat → Nat} {E : Nat → Nat → Nat} {G : va_G} {Z : vZ} {sa : Nat → Nat} {sc sq : Nat} {xs : Nat → Int32} (zk : Zk Z E) (zy : Zy Z E sa) (zs : ZS Z E) (zE : ZE Z) (zp : ZP Z) (zd : ZD Z E) (hst : X.2.1.stackTraces = false) (hZ : Zx Z X (YL cy adc adm E G A 9 Q)) (sx : SX X A sc sq xs) (hL : sq ≤ 2560) (C : Cx X (YL cy adc adm E G A 9 Q) cL_law RL (some .boolean) room_1 (tyL cy)) (N : Nat) (n : Nat) (rec : SL → Int → Option Unit) (ih : ∀ (σ : SL) (i : Int) (a bb : Nat), rng i → a + n * 1000 ≤ 600000 → bb + n * 13000 ≤ 7200000 → T X (YL cy adc adm E G A 9 Q) (fun (_ : Unit) => ∀ (q : SL) (a bb : Nat), a ≤ 600000 → bb ≤ 7200000 → J X (YL cy adc adm E G A 9 Q) a bb 3734 [] [] q) a bb 28 [(0, .ref sc), (1, .ref (adc 0)), (2, .ref (adm 0)), (3, .ref (adm 11)), (4, .ref (adm 12)), (5, vi i)] [] σ (rec σ i)) (σ : SL) (i : Int) (a bb : Nat) (hi : rng i) (hi0 : 0 ≤ i ∧ i < (sq : Int)) (ha : a + (n + 1) * 1000 ≤ 600000) (hb : bb + (n + 1) * 13000 ≤ 7200000) : T X (YL cy adc adm E G A 9 Q) (fun (_ : Unit) => ∀ (q : SL) (a bb : Nat), a ≤ 600000 → bb ≤ 7200000 → J X (YL cy adc adm E G A 9 Q) a bb 3734 [] [] q) a bb 833 [(0, .ref sc), (1, .ref (adc 0)), (2, .ref (adm 0)), (3, .ref (adm 11)), (4, .ref (adm 12)), (5, vi i)] [] σ (f_law_8 sq xs N rec σ i) := by
  have hsl : sq ≤ 2147483647 := by omega
  have hsq : rng (sq : Int) := by unfold rng; omega
  unfold f_law_8
  refine T_aload_n (pc := 833) C dL_law_833 rfl 1 rfl ?_
  refine T_aload_n (pc := 834) C dL_law_834 rfl 0 rfl ?_
  refine T_iload (pc := 835) C dL_law_835 5 rfl ?_
  refine T_iconst (pc := 837) C dL_law_837 ?_
  refine T_iadd (pc := 838) C dL_law_838 ?_
  refine T_guard (fun g1 => ?_)
  refine T_sld sx (pc := 839) C hsl g1 dL_law_839 ?_
  refine T_aload_n (pc := 840) C dL_law_840 rfl 0 rfl ?_
  refine T_iload (pc := 841) C dL_law_841 5 rfl ?_
  refine T_iconst (pc := 843) C dL_law_843 ?_
  refine T_iadd (pc := 844) C dL_law_844 ?_
  refine T_guard (fun g2 => ?_)
  refine T_sld sx (pc := 845) C hsl g2 dL_law_845 ?_
  refine T_if_eq (pc := 846) C 853 dL_law_846 rfl (scv_rng _ _) (fun c3 => ?_) (fun c3 => ?_)
  · refine T_iconst (pc := 853) C dL_law_853 ?_
    refine T_aload_n (pc := 854) C dL_law_854 rfl 3 rfl ?_
    refine T_lh (pc := 855) zk.1 hZ C [.ref (adc 0), vi (scv xs (i + 1)), vi 0, .ref (adm 11)] [] (fun o h9 hw => ct_L_setClosed zk zy zs zE hst N σ (scv xs (i + 1)) 0 (scv_rng _ _) (Or.inl rfl) hw o h9) kq_17 cm_L_setClosed rfl rfl (Nat.le_of_ble_eq_true rfl) ⟨⟨by decide, by decide⟩, by show _ + 1 ≤ room_1.cells; have := rmC1; omega, by show _ + 6 ≤ room_1.slots; have := rmS1; omega⟩ (a' := a + 1) (b' := bb + 6) ⟨rfl, rfl⟩ dL_law_855 (fun v4 hv4 => ?_)
    refine T_istore (pc := 858) (L' := [(6, vi v4.2), (0, .ref sc), (1, .ref (adc 0)), (2, .ref (adm 0)), (3, .ref (adm 11)), (4, .ref (adm 12)), (5, vi i)]) C dL_law_858 (Nat.le_of_ble_eq_true rfl) rfl ?_
    refine T_aload_n (pc := 860) C dL_law_860 rfl 3 rfl ?_
    refine T_aload_n (pc := 861) C dL_law_861 rfl 1 rfl ?_
    refine T_iload (pc := 862) C dL_law_862 6 rfl ?_
    refine T_iconst (pc := 864) C dL_law_864 ?_
    refine T_iadd (pc := 865) C dL_law_865 ?_
    refine T_sld sx (pc := 866) C hsl g1 dL_law_866 ?_
    refine T_aload_n (pc := 867) C dL_law_867 rfl 1 rfl ?_
    refine T_iload (pc := 868) C dL_law_868 6 rfl ?_
    refine T_iconst (pc := 870) C dL_law_870 ?_
    refine T_iadd (pc := 871) C dL_law_871 ?_
    refine T_sld sx (pc := 872) C hsl g2 dL_law_872 ?_
    refine T_if_eq (pc := 873) C 880 dL_law_873 rfl (scv_rng _ _) (fun c5 => ?_) (fun c5 => ?_)
    · refine T_iconst (pc := 880) C dL_law_880 ?_
      refine T_lmi (pc := 881) C [vi (scv xs (i + 1)), vi 0] [] (fun o h9 hw => ct_X13_setClosed N v4.1.2.1 (scv xs (i + 1)) 0 (scv_rng _ _) (Or.inl rfl) hw o h9) kq_18 cm_X13_setClosed rcm rfl rfl (Nat.le_of_ble_eq_true rfl) ⟨⟨by decide, by decide⟩, by show _ + 0 ≤ room_1.cells; have := rmC1; omega, by show _ + 0 ≤ room_1.slots; have := rmS1; omega⟩ (a' := a + 1) (b' := bb + 6) ⟨rfl, rfl⟩ dL_law_881 (fun v6 hv6 => ?_)
      refine T_istore (pc := 884) (L' := [(7, vi v6.2), (6, vi v4.2), (0, .ref sc), (1, .ref (adc 0)), (2, .ref (adm 0)), (3, .ref (adm 11)), (4, .ref (adm 12)), (5, vi i)]) C dL_law_884 (Nat.le_of_ble_eq_true rfl) rfl ?_
      refine T_aload_n (pc := 886) C dL_law_886 rfl 4 rfl ?_
      refine T_lmp (pc := 887) C [] [] (fun o h9 hw => ct_X13_thrown (v4.1.1, v6.1, v4.1.2.2).2.1 hw o h9) kq_2 cm_X13_thrown rcm rfl rfl (Nat.le_of_ble_eq_true rfl) ⟨⟨by decide, by decide⟩, by show _ + 0 ≤ room_1.cells; have := rmC1; omega, by show _ + 0 ≤ room_1.slots; have := rmS1; omega⟩ (a' := a + 1) (b' := bb + 6) ⟨rfl, rfl⟩ dL_law_887 (fun v7 hv7 => ?_)
      refine T_iload (pc := 890) C dL_law_890 1 rfl ?_
      refine T_icmp_eq (pc := 892) C 897 dL_law_892 rfl hv7.1 hv4 (fun c8 => ?_) (fun c8 => ?_)
      · refine T_iload (pc := 897) C dL_law_897 1 rfl ?_
        refine T_if_ne (pc := 899) C 921 dL_law_899 rfl hv4 (fun c9 => ?_) (fun c9 => ?_)
        · refine T_goto (pc := 921) C 3728 dL_law_921 rfl ?_
          refine T_iinc (pc := 3728) (L' := [(5, vi (i + 5)), (7, vi v6.2), (6, vi v4.2), (0, .ref sc), (1, .ref (adc 0)), (2, .ref (adm 0)), (3, .ref (adm 11)), (4, .ref (adm 12))]) C dL_law_3728 (Nat.le_of_ble_eq_true rfl) 7 rfl rfl ?_
          refine T_goto (pc := 3731) C 28 dL_law_3731 rfl ?_
          refine T_sub (L' := [(0, .ref sc), (1, .ref (adc 0)), (2, .ref (adm 0)), (3, .ref (adm 11)), (4, .ref (adm 12)), (5, vi (i + 5))]) [3, 4, 5, 6, 7, 0] rfl ?_
          exact ih (v4.1.1, v6.1, v4.1.2.2) (i + 5) _ _ (by unfold rng; omega) (stp (c := 1) ha (by decide)) (stp (c := 6) hb (by decide))
        · refine T_aload_n (pc := 902) C dL_law_902 rfl 5 rfl ?_
          refine T_iconst (pc := 903) C dL_law_903 ?_
          refine T_lald (pc := 904) C dL_law_904 (fun o10 => ?_)
          refine T_iload (pc := 905) C dL_law_905 0 rfl ?_
          refine T_if_eq (pc := 907) C 914 dL_law_907 rfl hv6.1 (fun c11 => ?_) (fun c11 => ?_)
          · refine T_lconst (pc := 914) C 0 rfl dL_law_914 ?_
            refine T_lcmp (pc := 915) C o10 (rngL rfl) dL_law_915 ?_
            refine T_if_eq (pc := 916) C 921 dL_law_916 rfl (lcm_rng _ _) (fun c12 => ?_) (fun c12 => ?_)
            · refine T_goto (pc := 921) C 3728 dL_law_921 rfl ?_
              refine T_iinc (pc := 3728) (L' := [(5, vi (i + 5)), (7, vi v6.2), (6, vi v4.2), (0, .ref sc), (1, .ref (adc 0)), (2, .ref (adm 0)), (3, .ref (adm 11)), (4, .ref (adm 12))]) C dL_law_3728 (Nat.le_of_ble_eq_true rfl) 7 rfl rfl ?_
              refine T_goto (pc := 3731) C 28 dL_law_3731 rfl ?_
              refine T_sub (L' := [(0, .ref sc), (1, .ref (adc 0)), (2, .ref (adm 0)), (3, .ref (adm 11)), (4, .ref (adm 12)), (5, vi (i + 5))]) [3, 4, 5, 6, 7, 0] rfl ?_
              exact ih (v4.1.1, v6.1, v4.1.2.2) (i + 5) _ _ (by unfold rng; omega) (stp (c := 1) ha (by decide)) (stp (c := 6) hb (by decide))
            · refine T_iconst (pc := 919) C dL_law_919 ?_
              exact T_none
          · refine T_lconst (pc := 910) C 1 rfl dL_law_910 ?_
            refine T_goto (pc := 911) C 915 dL_law_911 rfl ?_
            refine T_lcmp (pc := 915) C o10 (rngL rfl) dL_law_915 ?_
            refine T_if_eq (pc := 916) C 921 dL_law_916 rfl (lcm_rng _ _) (fun c13 => ?_) (fun c13 => ?_)
            · refine T_goto (pc := 921) C 3728 dL_law_921 rfl ?_
              refine T_iinc (pc := 3728) (L' := [(5, vi (i + 5)), (7, vi v6.2), (6, vi v4.2), (0, .ref sc), (1, .ref (adc 0)), (2, .ref (adm 0)), (3, .ref (adm 11)), (4, .ref (adm 12))]) C dL_law_3728 (Nat.le_of_ble_eq_true rfl) 7 rfl rfl ?_
              refine T_goto (pc := 3731) C 28 dL_law_3731 rfl ?_
              refine T_sub (L' := [(0, .ref sc), (1, .ref (adc 0)), (2, .ref (adm 0)), (3, .ref (adm 11)), (4, .ref (adm 12)), (5, vi (i + 5))]) [3, 4, 5, 6, 7, 0] rfl ?_
              exact ih (v4.1.1, v6.1, v4.1.2.2) (i + 5) _ _ (by unfold rng; omega) (stp (c := 1) ha (by decide)) (stp (c := 6) hb (by decide))
            · refine T_iconst (pc := 919) C dL_law_919 ?_
              exact T_none
      · refine T_iconst (pc := 895) C dL_law_895 ?_
        exact T_none
    · refine T_iconst (pc := 876) C dL_law_876 ?_
      refine T_goto (pc := 877) C 881 dL_law_877 rfl ?_
      refine T_lmi (pc := 881) C [vi (scv xs (i + 1)), vi 1] [] (fun o h9 hw => ct_X13_setClosed N v4.1.2.1 (scv xs (i + 1)) 1 (scv_rng _ _) (Or.inr rfl) hw o h9) kq_18 cm_X13_setClosed rcm rfl rfl (Nat.le_of_ble_eq_true rfl) ⟨⟨by decide, by decide⟩, by show _ + 0 ≤ room_1.cells; have := rmC1; omega, by show _ + 0 ≤ room_1.slots; have := rmS1; omega⟩ (a' := a + 1) (b' := bb + 6) ⟨rfl, rfl⟩ dL_law_881 (fun v14 hv14 => ?_)
      refine T_istore (pc := 884) (L' := [(7, vi v14.2), (6, vi v4.2), (0, .ref sc), (1, .ref (adc 0)), (2, .ref (adm 0)), (3, .ref (adm 11)), (4, .ref (adm 12)), (5, vi i)]) C dL_law_884 (Nat.le_of_ble_eq_true rfl) rfl ?_
      refine T_aload_n (pc := 886) C dL_law_886 rfl 4 rfl ?_
      refine T_lmp (pc := 887) C [] [] (fun o h9 hw => ct_X13_thrown (v4.1.1, v14.1, v4.1.2.2).2.1 hw o h9) kq_2 cm_X13_thrown rcm rfl rfl (Nat.le_of_ble_eq_true rfl) ⟨⟨by decide, by decide⟩, by show _ + 0 ≤ room_1.cells; have := rmC1; omega, by show _ + 0 ≤ room_1.slots; have := rmS1; omega⟩ (a' := a + 1) (b' := bb + 6) ⟨rfl, rfl⟩ dL_law_887 (fun v15 hv15 => ?_)
      refine T_iload (pc := 890) C dL_law_890 1 rfl ?_
      refine T_icmp_eq (pc := 892) C 897 dL_law_892 rfl hv15.1 hv4 (fun c16 => ?_) (fun c16 => ?_)
      · refine T_iload (pc := 897) C dL_law_897 1 rfl ?_
        refine T_if_ne (pc := 899) C 921 dL_law_899 rfl hv4 (fun c17 => ?_) (fun c17 => ?_)
        · refine T_goto (pc := 921) C 3728 dL_law_921 rfl ?_
          refine T_iinc (pc := 3728) (L' := [(5, vi (i + 5)), (7, vi v14.2), (6, vi v4.2), (0, .ref sc), (1, .ref (adc 0)), (2, .ref (adm 0)), (3, .ref (adm 11)), (4, .ref (adm 12))]) C dL_law_3728 (Nat.le_of_ble_eq_true rfl) 7 rfl rfl ?_
          refine T_goto (pc := 3731) C 28 dL_law_3731 rfl ?_
          refine T_sub (L' := [(0, .ref sc), (1, .ref (adc 0)), (2, .ref (adm 0)), (3, .ref (adm 11)), (4, .ref (adm 12)), (5, vi (i + 5))]) [3, 4, 5, 6, 7, 0] rfl ?_
          exact ih (v4.1.1, v14.1, v4.1.2.2) (i + 5) _ _ (by unfold rng; omega) (stp (c := 1) ha (by decide)) (stp (c := 6) hb (by decide))
        · refine T_aload_n (pc := 902) C dL_law_902 rfl 5 rfl ?_
          refine T_iconst (pc := 903) C dL_law_903 ?_
          refine T_lald (pc := 904) C dL_law_904 (fun o18 => ?_)
          refine T_iload (pc := 905) C dL_law_905 0 rfl ?_
          refine T_if_eq (pc := 907) C 914 dL_law_907 rfl hv14.1 (fun c19 => ?_) (fun c19 => ?_)
          · refine T_lconst (pc := 914) C 0 rfl dL_law_914 ?_
            refine T_lcmp (pc := 915) C o18 (rngL rfl) dL_law_915 ?_
            refine T_if_eq (pc := 916) C 921 dL_law_916 rfl (lcm_rng _ _) (fun c20 => ?_) (fun c20 => ?_)
            · refine T_goto (pc := 921) C 3728 dL_law_921 rfl ?_
              refine T_iinc (pc := 3728) (L' := [(5, vi (i + 5)), (7, vi v14.2), (6, vi v4.2), (0, .ref sc), (1, .ref (adc 0)), (2, .ref (adm 0)), (3, .ref (adm 11)), (4, .ref (adm 12))]) C dL_law_3728 (Nat.le_of_ble_eq_true rfl) 7 rfl rfl ?_
              refine T_goto (pc := 3731) C 28 dL_law_3731 rfl ?_
              refine T_sub (L' := [(0, .ref sc), (1, .ref (adc 0)), (2, .ref (adm 0)), (3, .ref (adm 11)), (4, .ref (adm 12)), (5, vi (i + 5))]) [3, 4, 5, 6, 7, 0] rfl ?_
              exact ih (v4.1.1, v14.1, v4.1.2.2) (i + 5) _ _ (by unfold rng; omega) (stp (c := 1) ha (by decide)) (stp (c := 6) hb (by decide))
            · refine T_iconst (pc := 919) C dL_law_919 ?_
              exact T_none
          · refine T_lconst (pc := 910) C 1 rfl dL_law_910 ?_
            refine T_goto (pc := 911) C 915 dL_law_911 rfl ?_
            refine T_lcmp (pc := 915) C o18 (rngL rfl) dL_law_915 ?_
            refine T_if_eq (pc := 916) C 921 dL_law_916 rfl (lcm_rng _ _) (fun c21 => ?_) (fun c21 => ?_)
            · refine T_goto (pc := 921) C 3728 dL_law_921 rfl ?_
              refine T_iinc (pc := 3728) (L' := [(5, vi (i + 5)), (7, vi v14.2), (6, vi v4.2), (0, .ref sc), (1, .ref (adc 0)), (2, .ref (adm 0)), (3, .ref (adm 11)), (4, .ref (adm 12))]) C dL_law_3728 (Nat.le_of_ble_eq_true rfl) 7 rfl rfl ?_
              refine T_goto (pc := 3731) C 28 dL_law_3731 rfl ?_
              refine T_sub (L' := [(0, .ref sc), (1, .ref (adc 0)), (2, .ref (adm 0)), (3, .ref (adm 11)), (4, .ref (adm 12)), (5, vi (i + 5))]) [3, 4, 5, 6, 7, 0] rfl ?_
              exact ih (v4.1.1, v14.1, v4.1.2.2) (i + 5) _ _ (by unfold rng; omega) (stp (c := 1) ha (by decide)) (stp (c := 6) hb (by decide))
            · refine T_iconst (pc := 919) C dL_law_919 ?_
              exact T_none
      · refine T_iconst (pc := 895) C dL_law_895 ?_
        exact T_none
  · refine T_iconst (pc := 849) C dL_law_849 ?_
    refine T_goto (pc := 850) C 854 dL_law_850 rfl ?_
    refine T_aload_n (pc := 854) C dL_law_854 rfl 3 rfl ?_
    refine T_lh (pc := 855) zk.1 hZ C [.ref (adc 0), vi (scv xs (i + 1)), vi 1, .ref (adm 11)] [] (fun o h9 hw => ct_L_setClosed zk zy zs zE hst N σ (scv xs (i + 1)) 1 (scv_rng _ _) (Or.inr rfl) hw o h9) kq_17 cm_L_setClosed rfl rfl (Nat.le_of_ble_eq_true rfl) ⟨⟨by decide, by decide⟩, by show _ + 1 ≤ room_1.cells; have := rmC1; omega, by show _ + 6 ≤ room_1.slots; have := rmS1; omega⟩ (a' := a + 1) (b' := bb + 6) ⟨rfl, rfl⟩ dL_law_855 (fun v22 hv22 => ?_)
    refine T_istore (pc := 858) (L' := [(6, vi v22.2), (0, .ref sc), (1, .ref (adc 0)), (2, .ref (adm 0)), (3, .ref (adm 11)), (4, .ref (adm 12)), (5, vi i)]) C dL_law_858 (Nat.le_of_ble_eq_true rfl) rfl ?_
    refine T_aload_n (pc := 860) C dL_law_860 rfl 3 rfl ?_
    refine T_aload_n (pc := 861) C dL_law_861 rfl 1 rfl ?_
    refine T_iload (pc := 862) C dL_law_862 6 rfl ?_
    refine T_iconst (pc := 864) C dL_law_864 ?_
    refine T_iadd (pc := 865) C dL_law_865 ?_
    refine T_sld sx (pc := 866) C hsl g1 dL_law_866 ?_
    refine T_aload_n (pc := 867) C dL_law_867 rfl 1 rfl ?_
    refine T_iload (pc := 868) C dL_law_868 6 rfl ?_
    refine T_iconst (pc := 870) C dL_law_870 ?_
    refine T_iadd (pc := 871) C dL_law_871 ?_
    refine T_sld sx (pc := 872) C hsl g2 dL_law_872 ?_
    refine T_if_eq (pc := 873) C 880 dL_law_873 rfl (scv_rng _ _) (fun c23 => ?_) (fun c23 => ?_)
    · refine T_iconst (pc := 880) C dL_law_880 ?_
      refine T_lmi (pc := 881) C [vi (scv xs (i + 1)), vi 0] [] (fun o h9 hw => ct_X13_setClosed N v22.1.2.1 (scv xs (i + 1)) 0 (scv_rng _ _) (Or.inl rfl) hw o h9) kq_18 cm_X13_setClosed rcm rfl rfl (Nat.le_of_ble_eq_true rfl) ⟨⟨by decide, by decide⟩, by show _ + 0 ≤ room_1.cells; have := rmC1; omega, by show _ + 0 ≤ room_1.slots; have := rmS1; omega⟩ (a' := a + 1) (b' := bb + 6) ⟨rfl, rfl⟩ dL_law_881 (fun v24 hv24 => ?_)
      refine T_istore (pc := 884) (L' := [(7, vi v24.2), (6, vi v22.2), (0, .ref sc), (1, .ref (adc 0)), (2, .ref (adm 0)), (3, .ref (adm 11)), (4, .ref (adm 12)), (5, vi i)]) C dL_law_884 (Nat.le_of_ble_eq_true rfl) rfl ?_
      refine T_aload_n (pc := 886) C dL_law_886 rfl 4 rfl ?_
      refine T_lmp (pc := 887) C [] [] (fun o h9 hw => ct_X13_thrown (v22.1.1, v24.1, v22.1.2.2).2.1 hw o h9) kq_2 cm_X13_thrown rcm rfl rfl (Nat.le_of_ble_eq_true rfl) ⟨⟨by decide, by decide⟩, by show _ + 0 ≤ room_1.cells; have := rmC1; omega, by show _ + 0 ≤ room_1.slots; have := rmS1; omega⟩ (a' := a + 1) (b' := bb + 6) ⟨rfl, rfl⟩ dL_law_887 (fun v25 hv25 => ?_)
      refine T_iload (pc := 890) C dL_law_890 1 rfl ?_
      refine T_icmp_eq (pc := 892) C 897 dL_law_892 rfl hv25.1 hv22 (fun c26 => ?_) (fun c26 => ?_)
      · refine T_iload (pc := 897) C dL_law_897 1 rfl ?_
        refine T_if_ne (pc := 899) C 921 dL_law_899 rfl hv22 (fun c27 => ?_) (fun c27 => ?_)
        · refine T_goto (pc := 921) C 3728 dL_law_921 rfl ?_
          refine T_iinc (pc := 3728) (L' := [(5, vi (i + 5)), (7, vi v24.2), (6, vi v22.2), (0, .ref sc), (1, .ref (adc 0)), (2, .ref (adm 0)), (3, .ref (adm 11)), (4, .ref (adm 12))]) C dL_law_3728 (Nat.le_of_ble_eq_true rfl) 7 rfl rfl ?_
          refine T_goto (pc := 3731) C 28 dL_law_3731 rfl ?_
          refine T_sub (L' := [(0, .ref sc), (1, .ref (adc 0)), (2, .ref (adm 0)), (3, .ref (adm 11)), (4, .ref (adm 12)), (5, vi (i + 5))]) [3, 4, 5, 6, 7, 0] rfl ?_
          exact ih (v22.1.1, v24.1, v22.1.2.2) (i + 5) _ _ (by unfold rng; omega) (stp (c := 1) ha (by decide)) (stp (c := 6) hb (by decide))
        · refine T_aload_n (pc := 902) C dL_law_902 rfl 5 rfl ?_
          refine T_iconst (pc := 903) C dL_law_903 ?_
          refine T_lald (pc := 904) C dL_law_904 (fun o28 => ?_)
          refine T_iload (pc := 905) C dL_law_905 0 rfl ?_
          refine T_if_eq (pc := 907) C 914 dL_law_907 rfl hv24.1 (fun c29 => ?_) (fun c29 => ?_)
          · refine T_lconst (pc := 914) C 0 rfl dL_law_914 ?_
            refine T_lcmp (pc := 915) C o28 (rngL rfl) dL_law_915 ?_
            refine T_if_eq (pc := 916) C 921 dL_law_916 rfl (lcm_rng _ _) (fun c30 => ?_) (fun c30 => ?_)
            · refine T_goto (pc := 921) C 3728 dL_law_921 rfl ?_
              refine T_iinc (pc := 3728) (L' := [(5, vi (i + 5)), (7, vi v24.2), (6, vi v22.2), (0, .ref sc), (1, .ref (adc 0)), (2, .ref (adm 0)), (3, .ref (adm 11)), (4, .ref (adm 12))]) C dL_law_3728 (Nat.le_of_ble_eq_true rfl) 7 rfl rfl ?_
              refine T_goto (pc := 3731) C 28 dL_law_3731 rfl ?_
              refine T_sub (L' := [(0, .ref sc), (1, .ref (adc 0)), (2, .ref (adm 0)), (3, .ref (adm 11)), (4, .ref (adm 12)), (5, vi (i + 5))]) [3, 4, 5, 6, 7, 0] rfl ?_
              exact ih (v22.1.1, v24.1, v22.1.2.2) (i + 5) _ _ (by unfold rng; omega) (stp (c := 1) ha (by decide)) (stp (c := 6) hb (by decide))
            · refine T_iconst (pc := 919) C dL_law_919 ?_
              exact T_none
          · refine T_lconst (pc := 910) C 1 rfl dL_law_910 ?_
            refine T_goto (pc := 911) C 915 dL_law_911 rfl ?_
            refine T_lcmp (pc := 915) C o28 (rngL rfl) dL_law_915 ?_
            refine T_if_eq (pc := 916) C 921 dL_law_916 rfl (lcm_rng _ _) (fun c31 => ?_) (fun c31 => ?_)
            · refine T_goto (pc := 921) C 3728 dL_law_921 rfl ?_
              refine T_iinc (pc := 3728) (L' := [(5, vi (i + 5)), (7, vi v24.2), (6, vi v22.2), (0, .ref sc), (1, .ref (adc 0)), (2, .ref (adm 0)), (3, .ref (adm 11)), (4, .ref (adm 12))]) C dL_law_3728 (Nat.le_of_ble_eq_true rfl) 7 rfl rfl ?_
              refine T_goto (pc := 3731) C 28 dL_law_3731 rfl ?_
              refine T_sub (L' := [(0, .ref sc), (1, .ref (adc 0)), (2, .ref (adm 0)), (3, .ref (adm 11)), (4, .ref (adm 12)), (5, vi (i + 5))]) [3, 4, 5, 6, 7, 0] rfl ?_
              exact ih (v22.1.1, v24.1, v22.1.2.2) (i + 5) _ _ (by unfold rng; omega) (stp (c := 1) ha (by decide)) (stp (c := 6) hb (by decide))
            · refine T_iconst (pc := 919) C dL_law_919 ?_
              exact T_none
      · refine T_iconst (pc := 895) C dL_law_895 ?_
        exact T_none
    · refine T_iconst (pc := 876) C dL_law_876 ?_
      refine T_goto (pc := 877) C 881 dL_law_877 rfl ?_
      refine T_lmi (pc := 881) C [vi (scv xs (i + 1)), vi 1] [] (fun o h9 hw => ct_X13_setClosed N v22.1.2.1 (scv xs (i + 1)) 1 (scv_rng _ _) (Or.inr rfl) hw o h9) kq_18 cm_X13_setClosed rcm rfl rfl (Nat.le_of_ble_eq_true rfl) ⟨⟨by decide, by decide⟩, by show _ + 0 ≤ room_1.cells; have := rmC1; omega, by show _ + 0 ≤ room_1.slots; have := rmS1; omega⟩ (a' := a + 1) (b' := bb + 6) ⟨rfl, rfl⟩ dL_law_881 (fun v32 hv32 => ?_)
      refine T_istore (pc := 884) (L' := [(7, vi v32.2), (6, vi v22.2), (0, .ref sc), (1, .ref (adc 0)), (2, .ref (adm 0)), (3, .ref (adm 11)), (4, .ref (adm 12)), (5, vi i)]) C dL_law_884 (Nat.le_of_ble_eq_true rfl) rfl ?_
      refine T_aload_n (pc := 886) C dL_law_886 rfl 4 rfl ?_
      refine T_lmp (pc := 887) C [] [] (fun o h9 hw => ct_X13_thrown (v22.1.1, v32.1, v22.1.2.2).2.1 hw o h9) kq_2 cm_X13_thrown rcm rfl rfl (Nat.le_of_ble_eq_true rfl) ⟨⟨by decide, by decide⟩, by show _ + 0 ≤ room_1.cells; have := rmC1; omega, by show _ + 0 ≤ room_1.slots; have := rmS1; omega⟩ (a' := a + 1) (b' := bb + 6) ⟨rfl, rfl⟩ dL_law_887 (fun v33 hv33 => ?_)
      refine T_iload (pc := 890) C dL_law_890 1 rfl ?_
      refine T_icmp_eq (pc := 892) C 897 dL_law_892 rfl hv33.1 hv22 (fun c34 => ?_) (fun c34 => ?_)
      · refine T_iload (pc := 897) C dL_law_897 1 rfl ?_
        refine T_if_ne (pc := 899) C 921 dL_law_899 rfl hv22 (fun c35 => ?_) (fun c35 => ?_)
        · refine T_goto (pc := 921) C 3728 dL_law_921 rfl ?_
          refine T_iinc (pc := 3728) (L' := [(5, vi (i + 5)), (7, vi v32.2), (6, vi v22.2), (0, .ref sc), (1, .ref (adc 0)), (2, .ref (adm 0)), (3, .ref (adm 11)), (4, .ref (adm 12))]) C dL_law_3728 (Nat.le_of_ble_eq_true rfl) 7 rfl rfl ?_
          refine T_goto (pc := 3731) C 28 dL_law_3731 rfl ?_
          refine T_sub (L' := [(0, .ref sc), (1, .ref (adc 0)), (2, .ref (adm 0)), (3, .ref (adm 11)), (4, .ref (adm 12)), (5, vi (i + 5))]) [3, 4, 5, 6, 7, 0] rfl ?_
          exact ih (v22.1.1, v32.1, v22.1.2.2) (i + 5) _ _ (by unfold rng; omega) (stp (c := 1) ha (by decide)) (stp (c := 6) hb (by decide))
        · refine T_aload_n (pc := 902) C dL_law_902 rfl 5 rfl ?_
          refine T_iconst (pc := 903) C dL_law_903 ?_
          refine T_lald (pc := 904) C dL_law_904 (fun o36 => ?_)
          refine T_iload (pc := 905) C dL_law_905 0 rfl ?_
          refine T_if_eq (pc := 907) C 914 dL_law_907 rfl hv32.1 (fun c37 => ?_) (fun c37 => ?_)
          · refine T_lconst (pc := 914) C 0 rfl dL_law_914 ?_
            refine T_lcmp (pc := 915) C o36 (rngL rfl) dL_law_915 ?_
            refine T_if_eq (pc := 916) C 921 dL_law_916 rfl (lcm_rng _ _) (fun c38 => ?_) (fun c38 => ?_)
            · refine T_goto (pc := 921) C 3728 dL_law_921 rfl ?_
              refine T_iinc (pc := 3728) (L' := [(5, vi (i + 5)), (7, vi v32.2), (6, vi v22.2), (0, .ref sc), (1, .ref (adc 0)), (2, .ref (adm 0)), (3, .ref (adm 11)), (4, .ref (adm 12))]) C dL_law_3728 (Nat.le_of_ble_eq_true rfl) 7 rfl rfl ?_
              refine T_goto (pc := 3731) C 28 dL_law_3731 rfl ?_
              refine T_sub (L' := [(0, .ref sc), (1, .ref (adc 0)), (2, .ref (adm 0)), (3, .ref (adm 11)), (4, .ref (adm 12)), (5, vi (i + 5))]) [3, 4, 5, 6, 7, 0] rfl ?_
              exact ih (v22.1.1, v32.1, v22.1.2.2) (i + 5) _ _ (by unfold rng; omega) (stp (c := 1) ha (by decide)) (stp (c := 6) hb (by decide))
            · refine T_iconst (pc := 919) C dL_law_919 ?_
              exact T_none
          · refine T_lconst (pc := 910) C 1 rfl dL_law_910 ?_
            refine T_goto (pc := 911) C 915 dL_law_911 rfl ?_
            refine T_lcmp (pc := 915) C o36 (rngL rfl) dL_law_915 ?_
            refine T_if_eq (pc := 916) C 921 dL_law_916 rfl (lcm_rng _ _) (fun c39 => ?_) (fun c39 => ?_)
            · refine T_goto (pc := 921) C 3728 dL_law_921 rfl ?_
              refine T_iinc (pc := 3728) (L' := [(5, vi (i + 5)), (7, vi v32.2), (6, vi v22.2), (0, .ref sc), (1, .ref (adc 0)), (2, .ref (adm 0)), (3, .ref (adm 11)), (4, .ref (adm 12))]) C dL_law_3728 (Nat.le_of_ble_eq_true rfl) 7 rfl rfl ?_
              refine T_goto (pc := 3731) C 28 dL_law_3731 rfl ?_
              refine T_sub (L' := [(0, .ref sc), (1, .ref (adc 0)), (2, .ref (adm 0)), (3, .ref (adm 11)), (4, .ref (adm 12)), (5, vi (i + 5))]) [3, 4, 5, 6, 7, 0] rfl ?_
              exact ih (v22.1.1, v32.1, v22.1.2.2) (i + 5) _ _ (by unfold rng; omega) (stp (c := 1) ha (by decide)) (stp (c := 6) hb (by decide))
            · refine T_iconst (pc := 919) C dL_law_919 ?_
              exact T_none
      · refine T_iconst (pc := 895) C dL_law_895 ?_
        exact T_none
noncomputable def f_law_9 (sq : Nat) (xs : Nat → Int32) (N : Nat) (rec : SL → Int → Option Unit) (σ : SL) (i : Int) : Option Unit :=
  if 0 ≤ (i + 1) ∧ (i + 1) < (sq : Int) then if 0 ≤ (i + 2) ∧ (i + 2) < (sq : Int) then (if (scv xs (i + 2)) = 0 then (f_L_setSuspended N σ (scv xs (i + 1)) 0).bind fun v4 => (if (scv xs (i + 2)) = 0 then (f_X13_setSuspended N v4.1.2.1 (scv xs (i + 1)) 0).bind fun v6 => (f_X13_thrown (v4.1.1, v6.1, v4.1.2.2).2.1).bind fun v7 => (if v7 = v4.2 then (if v4.2 = 0 then (if v6.2 = 0 then (if (lcm ((v4.1.1, v6.1, v4.1.2.2).2.2.1) 0) = 0 then rec (v4.1.1, v6.1, v4.1.2.2) (i + 5) else none) else (if (lcm ((v4.1.1, v6.1, v4.1.2.2).2.2.1) 1) = 0 then rec (v4.1.1, v6.1, v4.1.2.2) (i + 5) else none)) else rec (v4.1.1, v6.1, v4.1.2.2) (i + 5)) else none) else (f_X13_setSuspended N v4.1.2.1 (scv xs (i + 1)) 1).bind fun v14 => (f_X13_thrown (v4.1.1, v14.1, v4.1.2.2).2.1).bind fun v15 => (if v15 = v4.2 then (if v4.2 = 0 then (if v14.2 = 0 then (if (lcm ((v4.1.1, v14.1, v4.1.2.2).2.2.1) 0) = 0 then rec (v4.1.1, v14.1, v4.1.2.2) (i + 5) else none) else (if (lcm ((v4.1.1, v14.1, v4.1.2.2).2.2.1) 1) = 0 then rec (v4.1.1, v14.1, v4.1.2.2) (i + 5) else none)) else rec (v4.1.1, v14.1, v4.1.2.2) (i + 5)) else none)) else (f_L_setSuspended N σ (scv xs (i + 1)) 1).bind fun v22 => (if (scv xs (i + 2)) = 0 then (f_X13_setSuspended N v22.1.2.1 (scv xs (i + 1)) 0).bind fun v24 => (f_X13_thrown (v22.1.1, v24.1, v22.1.2.2).2.1).bind fun v25 => (if v25 = v22.2 then (if v22.2 = 0 then (if v24.2 = 0 then (if (lcm ((v22.1.1, v24.1, v22.1.2.2).2.2.1) 0) = 0 then rec (v22.1.1, v24.1, v22.1.2.2) (i + 5) else none) else (if (lcm ((v22.1.1, v24.1, v22.1.2.2).2.2.1) 1) = 0 then rec (v22.1.1, v24.1, v22.1.2.2) (i + 5) else none)) else rec (v22.1.1, v24.1, v22.1.2.2) (i + 5)) else none) else (f_X13_setSuspended N v22.1.2.1 (scv xs (i + 1)) 1).bind fun v32 => (f_X13_thrown (v22.1.1, v32.1, v22.1.2.2).2.1).bind fun v33 => (if v33 = v22.2 then (if v22.2 = 0 then (if v32.2 = 0 then (if (lcm ((v22.1.1, v32.1, v22.1.2.2).2.2.1) 0) = 0 then rec (v22.1.1, v32.1, v22.1.2.2) (i + 5) else none) else (if (lcm ((v22.1.1, v32.1, v22.1.2.2).2.2.1) 1) = 0 then rec (v22.1.1, v32.1, v22.1.2.2) (i + 5) else none)) else rec (v22.1.1, v32.1, v22.1.2.2) (i + 5)) else none))) else none else none
theorem lc_9 {X : vjX} {A : Nat → Prop} {Q : State → Prop} {cy : Nat → ClassId} {adc adm : Nat → Nat} {E : Nat → Nat → Nat} {G : va_G} {Z : vZ} {sa : Nat → Nat} {sc sq : Nat} {xs : Nat → Int32} (zk : Zk Z E) (zy : Zy Z E sa) (zs : ZS Z E) (zE : ZE Z) (zp : ZP Z) (zd : ZD Z E) (hst : X.2.1.stackTraces = false) (hZ : Zx Z X (YL cy adc adm E G A 9 Q)) (sx : SX X A sc sq xs) (hL : sq ≤ 2560) (C : Cx X (YL cy adc adm E G A 9 Q) cL_law RL (some .boolean) room_1 (tyL cy)) (N : Nat) (n : Nat) (rec : SL → Int → Option Unit) (ih : ∀ (σ : SL) (i : Int) (a bb : Nat), rng i → a + n * 1000 ≤ 600000 → bb + n * 13000 ≤ 7200000 → T X (YL cy adc adm E G A 9 Q) (fun (_ : Unit) => ∀ (q : SL) (a bb : Nat), a ≤ 600000 → bb ≤ 7200000 → J X (YL cy adc adm E G A 9 Q) a bb 3734 [] [] q) a bb 28 [(0, .ref sc), (1, .ref (adc 0)), (2, .ref (adm 0)), (3, .ref (adm 11)), (4, .ref (adm 12)), (5, vi i)] [] σ (rec σ i)) (σ : SL) (i : Int) (a bb : Nat) (hi : rng i) (hi0 : 0 ≤ i ∧ i < (sq : Int)) (ha : a + (n + 1) * 1000 ≤ 600000) (hb : bb + (n + 1) * 13000 ≤ 7200000) : T X (YL cy adc adm E G A 9 Q) (fun (_ : Unit) => ∀ (q : SL) (a bb : Nat), a ≤ 600000 → bb ≤ 7200000 → J X (YL cy adc adm E G A 9 Q) a bb 3734 [] [] q) a bb 924 [(0, .ref sc), (1, .ref (adc 0)), (2, .ref (adm 0)), (3, .ref (adm 11)), (4, .ref (adm 12)), (5, vi i)] [] σ (f_law_9 sq xs N rec σ i) := by
  have hsl : sq ≤ 2147483647 := by omega
  have hsq : rng (sq : Int) := by unfold rng; omega
  unfold f_law_9
  refine T_aload_n (pc := 924) C dL_law_924 rfl 1 rfl ?_
  refine T_aload_n (pc := 925) C dL_law_925 rfl 0 rfl ?_
  refine T_iload (pc := 926) C dL_law_926 5 rfl ?_
  refine T_iconst (pc := 928) C dL_law_928 ?_
  refine T_iadd (pc := 929) C dL_law_929 ?_
  refine T_guard (fun g1 => ?_)
  refine T_sld sx (pc := 930) C hsl g1 dL_law_930 ?_
  refine T_aload_n (pc := 931) C dL_law_931 rfl 0 rfl ?_
  refine T_iload (pc := 932) C dL_law_932 5 rfl ?_
  refine T_iconst (pc := 934) C dL_law_934 ?_
  refine T_iadd (pc := 935) C dL_law_935 ?_
  refine T_guard (fun g2 => ?_)
  refine T_sld sx (pc := 936) C hsl g2 dL_law_936 ?_
  refine T_if_eq (pc := 937) C 944 dL_law_937 rfl (scv_rng _ _) (fun c3 => ?_) (fun c3 => ?_)
  · refine T_iconst (pc := 944) C dL_law_944 ?_
    refine T_aload_n (pc := 945) C dL_law_945 rfl 3 rfl ?_
    refine T_lh (pc := 946) zk.1 hZ C [.ref (adc 0), vi (scv xs (i + 1)), vi 0, .ref (adm 11)] [] (fun o h9 hw => ct_L_setSuspended zk zy zs zE hst N σ (scv xs (i + 1)) 0 (scv_rng _ _) (Or.inl rfl) hw o h9) kq_19 cm_L_setSuspended rfl rfl (Nat.le_of_ble_eq_true rfl) ⟨⟨by decide, by decide⟩, by show _ + 1 ≤ room_1.cells; have := rmC1; omega, by show _ + 6 ≤ room_1.slots; have := rmS1; omega⟩ (a' := a + 1) (b' := bb + 6) ⟨rfl, rfl⟩ dL_law_946 (fun v4 hv4 => ?_)
    refine T_istore (pc := 949) (L' := [(6, vi v4.2), (0, .ref sc), (1, .ref (adc 0)), (2, .ref (adm 0)), (3, .ref (adm 11)), (4, .ref (adm 12)), (5, vi i)]) C dL_law_949 (Nat.le_of_ble_eq_true rfl) rfl ?_
    refine T_aload_n (pc := 951) C dL_law_951 rfl 3 rfl ?_
    refine T_aload_n (pc := 952) C dL_law_952 rfl 1 rfl ?_
    refine T_iload (pc := 953) C dL_law_953 6 rfl ?_
    refine T_iconst (pc := 955) C dL_law_955 ?_
    refine T_iadd (pc := 956) C dL_law_956 ?_
    refine T_sld sx (pc := 957) C hsl g1 dL_law_957 ?_
    refine T_aload_n (pc := 958) C dL_law_958 rfl 1 rfl ?_
    refine T_iload (pc := 959) C dL_law_959 6 rfl ?_
    refine T_iconst (pc := 961) C dL_law_961 ?_
    refine T_iadd (pc := 962) C dL_law_962 ?_
    refine T_sld sx (pc := 963) C hsl g2 dL_law_963 ?_
    refine T_if_eq (pc := 964) C 971 dL_law_964 rfl (scv_rng _ _) (fun c5 => ?_) (fun c5 => ?_)
    · refine T_iconst (pc := 971) C dL_law_971 ?_
      refine T_lmi (pc := 972) C [vi (scv xs (i + 1)), vi 0] [] (fun o h9 hw => ct_X13_setSuspended N v4.1.2.1 (scv xs (i + 1)) 0 (scv_rng _ _) (Or.inl rfl) hw o h9) kq_20 cm_X13_setSuspended rcm rfl rfl (Nat.le_of_ble_eq_true rfl) ⟨⟨by decide, by decide⟩, by show _ + 0 ≤ room_1.cells; have := rmC1; omega, by show _ + 0 ≤ room_1.slots; have := rmS1; omega⟩ (a' := a + 1) (b' := bb + 6) ⟨rfl, rfl⟩ dL_law_972 (fun v6 hv6 => ?_)
      refine T_istore (pc := 975) (L' := [(7, vi v6.2), (6, vi v4.2), (0, .ref sc), (1, .ref (adc 0)), (2, .ref (adm 0)), (3, .ref (adm 11)), (4, .ref (adm 12)), (5, vi i)]) C dL_law_975 (Nat.le_of_ble_eq_true rfl) rfl ?_
      refine T_aload_n (pc := 977) C dL_law_977 rfl 4 rfl ?_
      refine T_lmp (pc := 978) C [] [] (fun o h9 hw => ct_X13_thrown (v4.1.1, v6.1, v4.1.2.2).2.1 hw o h9) kq_2 cm_X13_thrown rcm rfl rfl (Nat.le_of_ble_eq_true rfl) ⟨⟨by decide, by decide⟩, by show _ + 0 ≤ room_1.cells; have := rmC1; omega, by show _ + 0 ≤ room_1.slots; have := rmS1; omega⟩ (a' := a + 1) (b' := bb + 6) ⟨rfl, rfl⟩ dL_law_978 (fun v7 hv7 => ?_)
      refine T_iload (pc := 981) C dL_law_981 1 rfl ?_
      refine T_icmp_eq (pc := 983) C 988 dL_law_983 rfl hv7.1 hv4 (fun c8 => ?_) (fun c8 => ?_)
      · refine T_iload (pc := 988) C dL_law_988 1 rfl ?_
        refine T_if_ne (pc := 990) C 1012 dL_law_990 rfl hv4 (fun c9 => ?_) (fun c9 => ?_)
        · refine T_goto (pc := 1012) C 3728 dL_law_1012 rfl ?_
          refine T_iinc (pc := 3728) (L' := [(5, vi (i + 5)), (7, vi v6.2), (6, vi v4.2), (0, .ref sc), (1, .ref (adc 0)), (2, .ref (adm 0)), (3, .ref (adm 11)), (4, .ref (adm 12))]) C dL_law_3728 (Nat.le_of_ble_eq_true rfl) 7 rfl rfl ?_
          refine T_goto (pc := 3731) C 28 dL_law_3731 rfl ?_
          refine T_sub (L' := [(0, .ref sc), (1, .ref (adc 0)), (2, .ref (adm 0)), (3, .ref (adm 11)), (4, .ref (adm 12)), (5, vi (i + 5))]) [3, 4, 5, 6, 7, 0] rfl ?_
          exact ih (v4.1.1, v6.1, v4.1.2.2) (i + 5) _ _ (by unfold rng; omega) (stp (c := 1) ha (by decide)) (stp (c := 6) hb (by decide))
        · refine T_aload_n (pc := 993) C dL_law_993 rfl 5 rfl ?_
          refine T_iconst (pc := 994) C dL_law_994 ?_
          refine T_lald (pc := 995) C dL_law_995 (fun o10 => ?_)
          refine T_iload (pc := 996) C dL_law_996 0 rfl ?_
          refine T_if_eq (pc := 998) C 1005 dL_law_998 rfl hv6.1 (fun c11 => ?_) (fun c11 => ?_)
          · refine T_lconst (pc := 1005) C 0 rfl dL_law_1005 ?_
            refine T_lcmp (pc := 1006) C o10 (rngL rfl) dL_law_1006 ?_
            refine T_if_eq (pc := 1007) C 1012 dL_law_1007 rfl (lcm_rng _ _) (fun c12 => ?_) (fun c12 => ?_)
            · refine T_goto (pc := 1012) C 3728 dL_law_1012 rfl ?_
              refine T_iinc (pc := 3728) (L' := [(5, vi (i + 5)), (7, vi v6.2), (6, vi v4.2), (0, .ref sc), (1, .ref (adc 0)), (2, .ref (adm 0)), (3, .ref (adm 11)), (4, .ref (adm 12))]) C dL_law_3728 (Nat.le_of_ble_eq_true rfl) 7 rfl rfl ?_
              refine T_goto (pc := 3731) C 28 dL_law_3731 rfl ?_
              refine T_sub (L' := [(0, .ref sc), (1, .ref (adc 0)), (2, .ref (adm 0)), (3, .ref (adm 11)), (4, .ref (adm 12)), (5, vi (i + 5))]) [3, 4, 5, 6, 7, 0] rfl ?_
              exact ih (v4.1.1, v6.1, v4.1.2.2) (i + 5) _ _ (by unfold rng; omega) (stp (c := 1) ha (by decide)) (stp (c := 6) hb (by decide))
            · refine T_iconst (pc := 1010) C dL_law_1010 ?_
              exact T_none
          · refine T_lconst (pc := 1001) C 1 rfl dL_law_1001 ?_
            refine T_goto (pc := 1002) C 1006 dL_law_1002 rfl ?_
            refine T_lcmp (pc := 1006) C o10 (rngL rfl) dL_law_1006 ?_
            refine T_if_eq (pc := 1007) C 1012 dL_law_1007 rfl (lcm_rng _ _) (fun c13 => ?_) (fun c13 => ?_)
            · refine T_goto (pc := 1012) C 3728 dL_law_1012 rfl ?_
              refine T_iinc (pc := 3728) (L' := [(5, vi (i + 5)), (7, vi v6.2), (6, vi v4.2), (0, .ref sc), (1, .ref (adc 0)), (2, .ref (adm 0)), (3, .ref (adm 11)), (4, .ref (adm 12))]) C dL_law_3728 (Nat.le_of_ble_eq_true rfl) 7 rfl rfl ?_
              refine T_goto (pc := 3731) C 28 dL_law_3731 rfl ?_
              refine T_sub (L' := [(0, .ref sc), (1, .ref (adc 0)), (2, .ref (adm 0)), (3, .ref (adm 11)), (4, .ref (adm 12)), (5, vi (i + 5))]) [3, 4, 5, 6, 7, 0] rfl ?_
              exact ih (v4.1.1, v6.1, v4.1.2.2) (i + 5) _ _ (by unfold rng; omega) (stp (c := 1) ha (by decide)) (stp (c := 6) hb (by decide))
            · refine T_iconst (pc := 1010) C dL_law_1010 ?_
              exact T_none
      · refine T_iconst (pc := 986) C dL_law_986 ?_
        exact T_none
    · refine T_iconst (pc := 967) C dL_law_967 ?_
      refine T_goto (pc := 968) C 972 dL_law_968 rfl ?_
      refine T_lmi (pc := 972) C [vi (scv xs (i + 1)), vi 1] [] (fun o h9 hw => ct_X13_setSuspended N v4.1.2.1 (scv xs (i + 1)) 1 (scv_rng _ _) (Or.inr rfl) hw o h9) kq_20 cm_X13_setSuspended rcm rfl rfl (Nat.le_of_ble_eq_true rfl) ⟨⟨by decide, by decide⟩, by show _ + 0 ≤ room_1.cells; have := rmC1; omega, by show _ + 0 ≤ room_1.slots; have := rmS1; omega⟩ (a' := a + 1) (b' := bb + 6) ⟨rfl, rfl⟩ dL_law_972 (fun v14 hv14 => ?_)
      refine T_istore (pc := 975) (L' := [(7, vi v14.2), (6, vi v4.2), (0, .ref sc), (1, .ref (adc 0)), (2, .ref (adm 0)), (3, .ref (adm 11)), (4, .ref (adm 12)), (5, vi i)]) C dL_law_975 (Nat.le_of_ble_eq_true rfl) rfl ?_
      refine T_aload_n (pc := 977) C dL_law_977 rfl 4 rfl ?_
      refine T_lmp (pc := 978) C [] [] (fun o h9 hw => ct_X13_thrown (v4.1.1, v14.1, v4.1.2.2).2.1 hw o h9) kq_2 cm_X13_thrown rcm rfl rfl (Nat.le_of_ble_eq_true rfl) ⟨⟨by decide, by decide⟩, by show _ + 0 ≤ room_1.cells; have := rmC1; omega, by show _ + 0 ≤ room_1.slots; have := rmS1; omega⟩ (a' := a + 1) (b' := bb + 6) ⟨rfl, rfl⟩ dL_law_978 (fun v15 hv15 => ?_)
      refine T_iload (pc := 981) C dL_law_981 1 rfl ?_
      refine T_icmp_eq (pc := 983) C 988 dL_law_983 rfl hv15.1 hv4 (fun c16 => ?_) (fun c16 => ?_)
      · refine T_iload (pc := 988) C dL_law_988 1 rfl ?_
        refine T_if_ne (pc := 990) C 1012 dL_law_990 rfl hv4 (fun c17 => ?_) (fun c17 => ?_)
        · refine T_goto (pc := 1012) C 3728 dL_law_1012 rfl ?_
          refine T_iinc (pc := 3728) (L' := [(5, vi (i + 5)), (7, vi v14.2), (6, vi v4.2), (0, .ref sc), (1, .ref (adc 0)), (2, .ref (adm 0)), (3, .ref (adm 11)), (4, .ref (adm 12))]) C dL_law_3728 (Nat.le_of_ble_eq_true rfl) 7 rfl rfl ?_
          refine T_goto (pc := 3731) C 28 dL_law_3731 rfl ?_
          refine T_sub (L' := [(0, .ref sc), (1, .ref (adc 0)), (2, .ref (adm 0)), (3, .ref (adm 11)), (4, .ref (adm 12)), (5, vi (i + 5))]) [3, 4, 5, 6, 7, 0] rfl ?_
          exact ih (v4.1.1, v14.1, v4.1.2.2) (i + 5) _ _ (by unfold rng; omega) (stp (c := 1) ha (by decide)) (stp (c := 6) hb (by decide))
        · refine T_aload_n (pc := 993) C dL_law_993 rfl 5 rfl ?_
          refine T_iconst (pc := 994) C dL_law_994 ?_
          refine T_lald (pc := 995) C dL_law_995 (fun o18 => ?_)
          refine T_iload (pc := 996) C dL_law_996 0 rfl ?_
          refine T_if_eq (pc := 998) C 1005 dL_law_998 rfl hv14.1 (fun c19 => ?_) (fun c19 => ?_)
          · refine T_lconst (pc := 1005) C 0 rfl dL_law_1005 ?_
            refine T_lcmp (pc := 1006) C o18 (rngL rfl) dL_law_1006 ?_
            refine T_if_eq (pc := 1007) C 1012 dL_law_1007 rfl (lcm_rng _ _) (fun c20 => ?_) (fun c20 => ?_)
            · refine T_goto (pc := 1012) C 3728 dL_law_1012 rfl ?_
              refine T_iinc (pc := 3728) (L' := [(5, vi (i + 5)), (7, vi v14.2), (6, vi v4.2), (0, .ref sc), (1, .ref (adc 0)), (2, .ref (adm 0)), (3, .ref (adm 11)), (4, .ref (adm 12))]) C dL_law_3728 (Nat.le_of_ble_eq_true rfl) 7 rfl rfl ?_
              refine T_goto (pc := 3731) C 28 dL_law_3731 rfl ?_
              refine T_sub (L' := [(0, .ref sc), (1, .ref (adc 0)), (2, .ref (adm 0)), (3, .ref (adm 11)), (4, .ref (adm 12)), (5, vi (i + 5))]) [3, 4, 5, 6, 7, 0] rfl ?_
              exact ih (v4.1.1, v14.1, v4.1.2.2) (i + 5) _ _ (by unfold rng; omega) (stp (c := 1) ha (by decide)) (stp (c := 6) hb (by decide))
            · refine T_iconst (pc := 1010) C dL_law_1010 ?_
              exact T_none
          · refine T_lconst (pc := 1001) C 1 rfl dL_law_1001 ?_
            refine T_goto (pc := 1002) C 1006 dL_law_1002 rfl ?_
            refine T_lcmp (pc := 1006) C o18 (rngL rfl) dL_law_1006 ?_
            refine T_if_eq (pc := 1007) C 1012 dL_law_1007 rfl (lcm_rng _ _) (fun c21 => ?_) (fun c21 => ?_)
            · refine T_goto (pc := 1012) C 3728 dL_law_1012 rfl ?_
              refine T_iinc (pc := 3728) (L' := [(5, vi (i + 5)), (7, vi v14.2), (6, vi v4.2), (0, .ref sc), (1, .ref (adc 0)), (2, .ref (adm 0)), (3, .ref (adm 11)), (4, .ref (adm 12))]) C dL_law_3728 (Nat.le_of_ble_eq_true rfl) 7 rfl rfl ?_
              refine T_goto (pc := 3731) C 28 dL_law_3731 rfl ?_
              refine T_sub (L' := [(0, .ref sc), (1, .ref (adc 0)), (2, .ref (adm 0)), (3, .ref (adm 11)), (4, .ref (adm 12)), (5, vi (i + 5))]) [3, 4, 5, 6, 7, 0] rfl ?_
              exact ih (v4.1.1, v14.1, v4.1.2.2) (i + 5) _ _ (by unfold rng; omega) (stp (c := 1) ha (by decide)) (stp (c := 6) hb (by decide))
            · refine T_iconst (pc := 1010) C dL_law_1010 ?_
              exact T_none
      · refine T_iconst (pc := 986) C dL_law_986 ?_
        exact T_none
  · refine T_iconst (pc := 940) C dL_law_940 ?_
    refine T_goto (pc := 941) C 945 dL_law_941 rfl ?_
    refine T_aload_n (pc := 945) C dL_law_945 rfl 3 rfl ?_
    refine T_lh (pc := 946) zk.1 hZ C [.ref (adc 0), vi (scv xs (i + 1)), vi 1, .ref (adm 11)] [] (fun o h9 hw => ct_L_setSuspended zk zy zs zE hst N σ (scv xs (i + 1)) 1 (scv_rng _ _) (Or.inr rfl) hw o h9) kq_19 cm_L_setSuspended rfl rfl (Nat.le_of_ble_eq_true rfl) ⟨⟨by decide, by decide⟩, by show _ + 1 ≤ room_1.cells; have := rmC1; omega, by show _ + 6 ≤ room_1.slots; have := rmS1; omega⟩ (a' := a + 1) (b' := bb + 6) ⟨rfl, rfl⟩ dL_law_946 (fun v22 hv22 => ?_)
    refine T_istore (pc := 949) (L' := [(6, vi v22.2), (0, .ref sc), (1, .ref (adc 0)), (2, .ref (adm 0)), (3, .ref (adm 11)), (4, .ref (adm 12)), (5, vi i)]) C dL_law_949 (Nat.le_of_ble_eq_true rfl) rfl ?_
    refine T_aload_n (pc := 951) C dL_law_951 rfl 3 rfl ?_
    refine T_aload_n (pc := 952) C dL_law_952 rfl 1 rfl ?_
    refine T_iload (pc := 953) C dL_law_953 6 rfl ?_
    refine T_iconst (pc := 955) C dL_law_955 ?_
    refine T_iadd (pc := 956) C dL_law_956 ?_
    refine T_sld sx (pc := 957) C hsl g1 dL_law_957 ?_
    refine T_aload_n (pc := 958) C dL_law_958 rfl 1 rfl ?_
    refine T_iload (pc := 959) C dL_law_959 6 rfl ?_
    refine T_iconst (pc := 961) C dL_law_961 ?_
    refine T_iadd (pc := 962) C dL_law_962 ?_
    refine T_sld sx (pc := 963) C hsl g2 dL_law_963 ?_
    refine T_if_eq (pc := 964) C 971 dL_law_964 rfl (scv_rng _ _) (fun c23 => ?_) (fun c23 => ?_)
    · refine T_iconst (pc := 971) C dL_law_971 ?_
      refine T_lmi (pc := 972) C [vi (scv xs (i + 1)), vi 0] [] (fun o h9 hw => ct_X13_setSuspended N v22.1.2.1 (scv xs (i + 1)) 0 (scv_rng _ _) (Or.inl rfl) hw o h9) kq_20 cm_X13_setSuspended rcm rfl rfl (Nat.le_of_ble_eq_true rfl) ⟨⟨by decide, by decide⟩, by show _ + 0 ≤ room_1.cells; have := rmC1; omega, by show _ + 0 ≤ room_1.slots; have := rmS1; omega⟩ (a' := a + 1) (b' := bb + 6) ⟨rfl, rfl⟩ dL_law_972 (fun v24 hv24 => ?_)
      refine T_istore (pc := 975) (L' := [(7, vi v24.2), (6, vi v22.2), (0, .ref sc), (1, .ref (adc 0)), (2, .ref (adm 0)), (3, .ref (adm 11)), (4, .ref (adm 12)), (5, vi i)]) C dL_law_975 (Nat.le_of_ble_eq_true rfl) rfl ?_
      refine T_aload_n (pc := 977) C dL_law_977 rfl 4 rfl ?_
      refine T_lmp (pc := 978) C [] [] (fun o h9 hw => ct_X13_thrown (v22.1.1, v24.1, v22.1.2.2).2.1 hw o h9) kq_2 cm_X13_thrown rcm rfl rfl (Nat.le_of_ble_eq_true rfl) ⟨⟨by decide, by decide⟩, by show _ + 0 ≤ room_1.cells; have := rmC1; omega, by show _ + 0 ≤ room_1.slots; have := rmS1; omega⟩ (a' := a + 1) (b' := bb + 6) ⟨rfl, rfl⟩ dL_law_978 (fun v25 hv25 => ?_)
      refine T_iload (pc := 981) C dL_law_981 1 rfl ?_
      refine T_icmp_eq (pc := 983) C 988 dL_law_983 rfl hv25.1 hv22 (fun c26 => ?_) (fun c26 => ?_)
      · refine T_iload (pc := 988) C dL_law_988 1 rfl ?_
        refine T_if_ne (pc := 990) C 1012 dL_law_990 rfl hv22 (fun c27 => ?_) (fun c27 => ?_)
        · refine T_goto (pc := 1012) C 3728 dL_law_1012 rfl ?_
          refine T_iinc (pc := 3728) (L' := [(5, vi (i + 5)), (7, vi v24.2), (6, vi v22.2), (0, .ref sc), (1, .ref (adc 0)), (2, .ref (adm 0)), (3, .ref (adm 11)), (4, .ref (adm 12))]) C dL_law_3728 (Nat.le_of_ble_eq_true rfl) 7 rfl rfl ?_
          refine T_goto (pc := 3731) C 28 dL_law_3731 rfl ?_
          refine T_sub (L' := [(0, .ref sc), (1, .ref (adc 0)), (2, .ref (adm 0)), (3, .ref (adm 11)), (4, .ref (adm 12)), (5, vi (i + 5))]) [3, 4, 5, 6, 7, 0] rfl ?_
          exact ih (v22.1.1, v24.1, v22.1.2.2) (i + 5) _ _ (by unfold rng; omega) (stp (c := 1) ha (by decide)) (stp (c := 6) hb (by decide))
        · refine T_aload_n (pc := 993) C dL_law_993 rfl 5 rfl ?_
          refine T_iconst (pc := 994) C dL_law_994 ?_
          refine T_lald (pc := 995) C dL_law_995 (fun o28 => ?_)
          refine T_iload (pc := 996) C dL_law_996 0 rfl ?_
          refine T_if_eq (pc := 998) C 1005 dL_law_998 rfl hv24.1 (fun c29 => ?_) (fun c29 => ?_)
          · refine T_lconst (pc := 1005) C 0 rfl dL_law_1005 ?_
            refine T_lcmp (pc := 1006) C o28 (rngL rfl) dL_law_1006 ?_
            refine T_if_eq (pc := 1007) C 1012 dL_law_1007 rfl (lcm_rng _ _) (fun c30 => ?_) (fun c30 => ?_)
            · refine T_goto (pc := 1012) C 3728 dL_law_1012 rfl ?_
              refine T_iinc (pc := 3728) (L' := [(5, vi (i + 5)), (7, vi v24.2), (6, vi v22.2), (0, .ref sc), (1, .ref (adc 0)), (2, .ref (adm 0)), (3, .ref (adm 11)), (4, .ref (adm 12))]) C dL_law_3728 (Nat.le_of_ble_eq_true rfl) 7 rfl rfl ?_
              refine T_goto (pc := 3731) C 28 dL_law_3731 rfl ?_
              refine T_sub (L' := [(0, .ref sc), (1, .ref (adc 0)), (2, .ref (adm 0)), (3, .ref (adm 11)), (4, .ref (adm 12)), (5, vi (i + 5))]) [3, 4, 5, 6, 7, 0] rfl ?_
              exact ih (v22.1.1, v24.1, v22.1.2.2) (i + 5) _ _ (by unfold rng; omega) (stp (c := 1) ha (by decide)) (stp (c := 6) hb (by decide))
            · refine T_iconst (pc := 1010) C dL_law_1010 ?_
              exact T_none
          · refine T_lconst (pc := 1001) C 1 rfl dL_law_1001 ?_
            refine T_goto (pc := 1002) C 1006 dL_law_1002 rfl ?_
            refine T_lcmp (pc := 1006) C o28 (rngL rfl) dL_law_1006 ?_
            refine T_if_eq (pc := 1007) C 1012 dL_law_1007 rfl (lcm_rng _ _) (fun c31 => ?_) (fun c31 => ?_)
            · refine T_goto (pc := 1012) C 3728 dL_law_1012 rfl ?_
              refine T_iinc (pc := 3728) (L' := [(5, vi (i + 5)), (7, vi v24.2), (6, vi v22.2), (0, .ref sc), (1, .ref (adc 0)), (2, .ref (adm 0)), (3, .ref (adm 11)), (4, .ref (adm 12))]) C dL_law_3728 (Nat.le_of_ble_eq_true rfl) 7 rfl rfl ?_
              refine T_goto (pc := 3731) C 28 dL_law_3731 rfl ?_
              refine T_sub (L' := [(0, .ref sc), (1, .ref (adc 0)), (2, .ref (adm 0)), (3, .ref (adm 11)), (4, .ref (adm 12)), (5, vi (i + 5))]) [3, 4, 5, 6, 7, 0] rfl ?_
              exact ih (v22.1.1, v24.1, v22.1.2.2) (i + 5) _ _ (by unfold rng; omega) (stp (c := 1) ha (by decide)) (stp (c := 6) hb (by decide))
            · refine T_iconst (pc := 1010) C dL_law_1010 ?_
              exact T_none
      · refine T_iconst (pc := 986) C dL_law_986 ?_
        exact T_none
    · refine T_iconst (pc := 967) C dL_law_967 ?_
      refine T_goto (pc := 968) C 972 dL_law_968 rfl ?_
      refine T_lmi (pc := 972) C [vi (scv xs (i + 1)), vi 1] [] (fun o h9 hw => ct_X13_setSuspended N v22.1.2.1 (scv xs (i + 1)) 1 (scv_rng _ _) (Or.inr rfl) hw o h9) kq_20 cm_X13_setSuspended rcm rfl rfl (Nat.le_of_ble_eq_true rfl) ⟨⟨by decide, by decide⟩, by show _ + 0 ≤ room_1.cells; have := rmC1; omega, by show _ + 0 ≤ room_1.slots; have := rmS1; omega⟩ (a' := a + 1) (b' := bb + 6) ⟨rfl, rfl⟩ dL_law_972 (fun v32 hv32 => ?_)
      refine T_istore (pc := 975) (L' := [(7, vi v32.2), (6, vi v22.2), (0, .ref sc), (1, .ref (adc 0)), (2, .ref (adm 0)), (3, .ref (adm 11)), (4, .ref (adm 12)), (5, vi i)]) C dL_law_975 (Nat.le_of_ble_eq_true rfl) rfl ?_
      refine T_aload_n (pc := 977) C dL_law_977 rfl 4 rfl ?_
      refine T_lmp (pc := 978) C [] [] (fun o h9 hw => ct_X13_thrown (v22.1.1, v32.1, v22.1.2.2).2.1 hw o h9) kq_2 cm_X13_thrown rcm rfl rfl (Nat.le_of_ble_eq_true rfl) ⟨⟨by decide, by decide⟩, by show _ + 0 ≤ room_1.cells; have := rmC1; omega, by show _ + 0 ≤ room_1.slots; have := rmS1; omega⟩ (a' := a + 1) (b' := bb + 6) ⟨rfl, rfl⟩ dL_law_978 (fun v33 hv33 => ?_)
      refine T_iload (pc := 981) C dL_law_981 1 rfl ?_
      refine T_icmp_eq (pc := 983) C 988 dL_law_983 rfl hv33.1 hv22 (fun c34 => ?_) (fun c34 => ?_)
      · refine T_iload (pc := 988) C dL_law_988 1 rfl ?_
        refine T_if_ne (pc := 990) C 1012 dL_law_990 rfl hv22 (fun c35 => ?_) (fun c35 => ?_)
        · refine T_goto (pc := 1012) C 3728 dL_law_1012 rfl ?_
          refine T_iinc (pc := 3728) (L' := [(5, vi (i + 5)), (7, vi v32.2), (6, vi v22.2), (0, .ref sc), (1, .ref (adc 0)), (2, .ref (adm 0)), (3, .ref (adm 11)), (4, .ref (adm 12))]) C dL_law_3728 (Nat.le_of_ble_eq_true rfl) 7 rfl rfl ?_
          refine T_goto (pc := 3731) C 28 dL_law_3731 rfl ?_
          refine T_sub (L' := [(0, .ref sc), (1, .ref (adc 0)), (2, .ref (adm 0)), (3, .ref (adm 11)), (4, .ref (adm 12)), (5, vi (i + 5))]) [3, 4, 5, 6, 7, 0] rfl ?_
          exact ih (v22.1.1, v32.1, v22.1.2.2) (i + 5) _ _ (by unfold rng; omega) (stp (c := 1) ha (by decide)) (stp (c := 6) hb (by decide))
        · refine T_aload_n (pc := 993) C dL_law_993 rfl 5 rfl ?_
          refine T_iconst (pc := 994) C dL_law_994 ?_
          refine T_lald (pc := 995) C dL_law_995 (fun o36 => ?_)
          refine T_iload (pc := 996) C dL_law_996 0 rfl ?_
          refine T_if_eq (pc := 998) C 1005 dL_law_998 rfl hv32.1 (fun c37 => ?_) (fun c37 => ?_)
          · refine T_lconst (pc := 1005) C 0 rfl dL_law_1005 ?_
            refine T_lcmp (pc := 1006) C o36 (rngL rfl) dL_law_1006 ?_
            refine T_if_eq (pc := 1007) C 1012 dL_law_1007 rfl (lcm_rng _ _) (fun c38 => ?_) (fun c38 => ?_)
            · refine T_goto (pc := 1012) C 3728 dL_law_1012 rfl ?_
              refine T_iinc (pc := 3728) (L' := [(5, vi (i + 5)), (7, vi v32.2), (6, vi v22.2), (0, .ref sc), (1, .ref (adc 0)), (2, .ref (adm 0)), (3, .ref (adm 11)), (4, .ref (adm 12))]) C dL_law_3728 (Nat.le_of_ble_eq_true rfl) 7 rfl rfl ?_
              refine T_goto (pc := 3731) C 28 dL_law_3731 rfl ?_
              refine T_sub (L' := [(0, .ref sc), (1, .ref (adc 0)), (2, .ref (adm 0)), (3, .ref (adm 11)), (4, .ref (adm 12)), (5, vi (i + 5))]) [3, 4, 5, 6, 7, 0] rfl ?_
              exact ih (v22.1.1, v32.1, v22.1.2.2) (i + 5) _ _ (by unfold rng; omega) (stp (c := 1) ha (by decide)) (stp (c := 6) hb (by decide))
            · refine T_iconst (pc := 1010) C dL_law_1010 ?_
              exact T_none
          · refine T_lconst (pc := 1001) C 1 rfl dL_law_1001 ?_
            refine T_goto (pc := 1002) C 1006 dL_law_1002 rfl ?_
            refine T_lcmp (pc := 1006) C o36 (rngL rfl) dL_law_1006 ?_
            refine T_if_eq (pc := 1007) C 1012 dL_law_1007 rfl (lcm_rng _ _) (fun c39 => ?_) (fun c39 => ?_)
            · refine T_goto (pc := 1012) C 3728 dL_law_1012 rfl ?_
              refine T_iinc (pc := 3728) (L' := [(5, vi (i + 5)), (7, vi v32.2), (6, vi v22.2), (0, .ref sc), (1, .ref (adc 0)), (2, .ref (adm 0)), (3, .ref (adm 11)), (4, .ref (adm 12))]) C dL_law_3728 (Nat.le_of_ble_eq_true rfl) 7 rfl rfl ?_
              refine T_goto (pc := 3731) C 28 dL_law_3731 rfl ?_
              refine T_sub (L' := [(0, .ref sc), (1, .ref (adc 0)), (2, .ref (adm 0)), (3, .ref (adm 11)), (4, .ref (adm 12)), (5, vi (i + 5))]) [3, 4, 5, 6, 7, 0] rfl ?_
              exact ih (v22.1.1, v32.1, v22.1.2.2) (i + 5) _ _ (by unfold rng; omega) (stp (c := 1) ha (by decide)) (stp (c := 6) hb (by decide))
            · refine T_iconst (pc := 1010) C dL_law_1010 ?_
              exact T_none
      · refine T_iconst (pc := 986) C dL_law_986 ?_
        exact T_none
noncomputable def f_law_10 (sq : Nat) (xs : Nat → Int32) (N : Nat) (rec : SL → Int → Option Unit) (σ : SL) (i : Int) : Option Unit :=
  if 0 ≤ (i + 1) ∧ (i + 1) < (sq : Int) then if 0 ≤ (i + 2) ∧ (i + 2) < (sq : Int) then if 0 ≤ (i + 3) ∧ (i + 3) < (sq : Int) then if 0 ≤ (i + 4) ∧ (i + 4) < (sq : Int) then (f_L_sellTicket N σ (scv xs (i + 1)) (scv xs (i + 2)) (scv xs (i + 3)) (scv xs (i + 4))).bind fun v5 => (f_X13_sellTicket N v5.1.2.1 (scv xs (i + 1)) (scv xs (i + 2)) (scv xs (i + 3)) (scv xs (i + 4))).bind fun v6 => (f_X13_thrown (v5.1.1, v6.1, v5.1.2.2).2.1).bind fun v7 => (if v7 = v5.2 then (if v5.2 = 0 then (if (lcm ((v5.1.1, v6.1, v5.1.2.2).2.2.1) v6.2) = 0 then rec (v5.1.1, v6.1, v5.1.2.2) (i + 5) else none) else rec (v5.1.1, v6.1, v5.1.2.2) (i + 5)) else none) else none else none else none else none
theorem lc_10 {X : vjX} {A : Nat → Prop} {Q : State → Prop} {cy : Nat → ClassId} {adc adm : Nat → Nat} {E : Nat → Nat → Nat} {G : va_G} {Z : vZ} {sa : Nat → Nat} {sc sq : Nat} {xs : Nat → Int32} (zk : Zk Z E) (zy : Zy Z E sa) (zs : ZS Z E) (zE : ZE Z) (zp : ZP Z) (zd : ZD Z E) (hst : X.2.1.stackTraces = false) (hZ : Zx Z X (YL cy adc adm E G A 9 Q)) (sx : SX X A sc sq xs) (hL : sq ≤ 2560) (C : Cx X (YL cy adc adm E G A 9 Q) cL_law RL (some .boolean) room_1 (tyL cy)) (N : Nat) (n : Nat) (rec : SL → Int → Option Unit) (ih : ∀ (σ : SL) (i : Int) (a bb : Nat), rng i → a + n * 1000 ≤ 600000 → bb + n * 13000 ≤ 7200000 → T X (YL cy adc adm E G A 9 Q) (fun (_ : Unit) => ∀ (q : SL) (a bb : Nat), a ≤ 600000 → bb ≤ 7200000 → J X (YL cy adc adm E G A 9 Q) a bb 3734 [] [] q) a bb 28 [(0, .ref sc), (1, .ref (adc 0)), (2, .ref (adm 0)), (3, .ref (adm 11)), (4, .ref (adm 12)), (5, vi i)] [] σ (rec σ i)) (σ : SL) (i : Int) (a bb : Nat) (hi : rng i) (hi0 : 0 ≤ i ∧ i < (sq : Int)) (ha : a + (n + 1) * 1000 ≤ 600000) (hb : bb + (n + 1) * 13000 ≤ 7200000) : T X (YL cy adc adm E G A 9 Q) (fun (_ : Unit) => ∀ (q : SL) (a bb : Nat), a ≤ 600000 → bb ≤ 7200000 → J X (YL cy adc adm E G A 9 Q) a bb 3734 [] [] q) a bb 1015 [(0, .ref sc), (1, .ref (adc 0)), (2, .ref (adm 0)), (3, .ref (adm 11)), (4, .ref (adm 12)), (5, vi i)] [] σ (f_law_10 sq xs N rec σ i) := by
  have hsl : sq ≤ 2147483647 := by omega
  have hsq : rng (sq : Int) := by unfold rng; omega
  unfold f_law_10
  refine T_aload_n (pc := 1015) C dL_law_1015 rfl 1 rfl ?_
  refine T_aload_n (pc := 1016) C dL_law_1016 rfl 0 rfl ?_
  refine T_iload (pc := 1017) C dL_law_1017 5 rfl ?_
  refine T_iconst (pc := 1019) C dL_law_1019 ?_
  refine T_iadd (pc := 1020) C dL_law_1020 ?_
  refine T_guard (fun g1 => ?_)
  refine T_sld sx (pc := 1021) C hsl g1 dL_law_1021 ?_
  refine T_aload_n (pc := 1022) C dL_law_1022 rfl 0 rfl ?_
  refine T_iload (pc := 1023) C dL_law_1023 5 rfl ?_
  refine T_iconst (pc := 1025) C dL_law_1025 ?_
  refine T_iadd (pc := 1026) C dL_law_1026 ?_
  refine T_guard (fun g2 => ?_)
  refine T_sld sx (pc := 1027) C hsl g2 dL_law_1027 ?_
  refine T_aload_n (pc := 1028) C dL_law_1028 rfl 0 rfl ?_
  refine T_iload (pc := 1029) C dL_law_1029 5 rfl ?_
  refine T_iconst (pc := 1031) C dL_law_1031 ?_
  refine T_iadd (pc := 1032) C dL_law_1032 ?_
  refine T_guard (fun g3 => ?_)
  refine T_sld sx (pc := 1033) C hsl g3 dL_law_1033 ?_
  refine T_aload_n (pc := 1034) C dL_law_1034 rfl 0 rfl ?_
  refine T_iload (pc := 1035) C dL_law_1035 5 rfl ?_
  refine T_iconst (pc := 1037) C dL_law_1037 ?_
  refine T_iadd (pc := 1038) C dL_law_1038 ?_
  refine T_guard (fun g4 => ?_)
  refine T_sld sx (pc := 1039) C hsl g4 dL_law_1039 ?_
  refine T_aload_n (pc := 1040) C dL_law_1040 rfl 3 rfl ?_
  refine T_lh (pc := 1041) zk.1 hZ C [.ref (adc 0), vi (scv xs (i + 1)), vi (scv xs (i + 2)), vi (scv xs (i + 3)), vi (scv xs (i + 4)), .ref (adm 11)] [] (fun o h9 hw => ct_L_sellTicket zk zy zs zE hst N σ (scv xs (i + 1)) (scv xs (i + 2)) (scv xs (i + 3)) (scv xs (i + 4)) (scv_rng _ _) (scv_rng _ _) (scv_rng _ _) (scv_rng _ _) hw o h9) kq_21 cm_L_sellTicket rfl rfl (Nat.le_of_ble_eq_true rfl) ⟨⟨by decide, by decide⟩, by show _ + 1 ≤ room_1.cells; have := rmC1; omega, by show _ + 6 ≤ room_1.slots; have := rmS1; omega⟩ (a' := a + 1) (b' := bb + 6) ⟨rfl, rfl⟩ dL_law_1041 (fun v5 hv5 => ?_)
  refine T_istore (pc := 1044) (L' := [(6, vi v5.2), (0, .ref sc), (1, .ref (adc 0)), (2, .ref (adm 0)), (3, .ref (adm 11)), (4, .ref (adm 12)), (5, vi i)]) C dL_law_1044 (Nat.le_of_ble_eq_true rfl) rfl ?_
  refine T_aload_n (pc := 1046) C dL_law_1046 rfl 3 rfl ?_
  refine T_aload_n (pc := 1047) C dL_law_1047 rfl 1 rfl ?_
  refine T_iload (pc := 1048) C dL_law_1048 6 rfl ?_
  refine T_iconst (pc := 1050) C dL_law_1050 ?_
  refine T_iadd (pc := 1051) C dL_law_1051 ?_
  refine T_sld sx (pc := 1052) C hsl g1 dL_law_1052 ?_
  refine T_aload_n (pc := 1053) C dL_law_1053 rfl 1 rfl ?_
  refine T_iload (pc := 1054) C dL_law_1054 6 rfl ?_
  refine T_iconst (pc := 1056) C dL_law_1056 ?_
  refine T_iadd (pc := 1057) C dL_law_1057 ?_
  refine T_sld sx (pc := 1058) C hsl g2 dL_law_1058 ?_
  refine T_aload_n (pc := 1059) C dL_law_1059 rfl 1 rfl ?_
  refine T_iload (pc := 1060) C dL_law_1060 6 rfl ?_
  refine T_iconst (pc := 1062) C dL_law_1062 ?_
  refine T_iadd (pc := 1063) C dL_law_1063 ?_
  refine T_sld sx (pc := 1064) C hsl g3 dL_law_1064 ?_
  refine T_aload_n (pc := 1065) C dL_law_1065 rfl 1 rfl ?_
  refine T_iload (pc := 1066) C dL_law_1066 6 rfl ?_
  refine T_iconst (pc := 1068) C dL_law_1068 ?_
  refine T_iadd (pc := 1069) C dL_law_1069 ?_
  refine T_sld sx (pc := 1070) C hsl g4 dL_law_1070 ?_
  refine T_lmi (pc := 1071) C [vi (scv xs (i + 1)), vi (scv xs (i + 2)), vi (scv xs (i + 3)), vi (scv xs (i + 4))] [] (fun o h9 hw => ct_X13_sellTicket N v5.1.2.1 (scv xs (i + 1)) (scv xs (i + 2)) (scv xs (i + 3)) (scv xs (i + 4)) (scv_rng _ _) (scv_rng _ _) (scv_rng _ _) (scv_rng _ _) hw o h9) kq_22 cm_X13_sellTicket rcm rfl rfl (Nat.le_of_ble_eq_true rfl) ⟨⟨by decide, by decide⟩, by show _ + 0 ≤ room_1.cells; have := rmC1; omega, by show _ + 0 ≤ room_1.slots; have := rmS1; omega⟩ (a' := a + 1) (b' := bb + 6) ⟨rfl, rfl⟩ dL_law_1071 (fun v6 hv6 => ?_)
  refine T_istore (pc := 1074) (L' := [(7, vi v6.2), (6, vi v5.2), (0, .ref sc), (1, .ref (adc 0)), (2, .ref (adm 0)), (3, .ref (adm 11)), (4, .ref (adm 12)), (5, vi i)]) C dL_law_1074 (Nat.le_of_ble_eq_true rfl) rfl ?_
  refine T_aload_n (pc := 1076) C dL_law_1076 rfl 4 rfl ?_
  refine T_lmp (pc := 1077) C [] [] (fun o h9 hw => ct_X13_thrown (v5.1.1, v6.1, v5.1.2.2).2.1 hw o h9) kq_2 cm_X13_thrown rcm rfl rfl (Nat.le_of_ble_eq_true rfl) ⟨⟨by decide, by decide⟩, by show _ + 0 ≤ room_1.cells; have := rmC1; omega, by show _ + 0 ≤ room_1.slots; have := rmS1; omega⟩ (a' := a + 1) (b' := bb + 6) ⟨rfl, rfl⟩ dL_law_1077 (fun v7 hv7 => ?_)
  refine T_iload (pc := 1080) C dL_law_1080 1 rfl ?_
  refine T_icmp_eq (pc := 1082) C 1087 dL_law_1082 rfl hv7.1 hv5 (fun c8 => ?_) (fun c8 => ?_)
  · refine T_iload (pc := 1087) C dL_law_1087 1 rfl ?_
    refine T_if_ne (pc := 1089) C 1104 dL_law_1089 rfl hv5 (fun c9 => ?_) (fun c9 => ?_)
    · refine T_goto (pc := 1104) C 3728 dL_law_1104 rfl ?_
      refine T_iinc (pc := 3728) (L' := [(5, vi (i + 5)), (7, vi v6.2), (6, vi v5.2), (0, .ref sc), (1, .ref (adc 0)), (2, .ref (adm 0)), (3, .ref (adm 11)), (4, .ref (adm 12))]) C dL_law_3728 (Nat.le_of_ble_eq_true rfl) 7 rfl rfl ?_
      refine T_goto (pc := 3731) C 28 dL_law_3731 rfl ?_
      refine T_sub (L' := [(0, .ref sc), (1, .ref (adc 0)), (2, .ref (adm 0)), (3, .ref (adm 11)), (4, .ref (adm 12)), (5, vi (i + 5))]) [3, 4, 5, 6, 7, 0] rfl ?_
      exact ih (v5.1.1, v6.1, v5.1.2.2) (i + 5) _ _ (by unfold rng; omega) (stp (c := 1) ha (by decide)) (stp (c := 6) hb (by decide))
    · refine T_aload_n (pc := 1092) C dL_law_1092 rfl 5 rfl ?_
      refine T_iconst (pc := 1093) C dL_law_1093 ?_
      refine T_lald (pc := 1094) C dL_law_1094 (fun o10 => ?_)
      refine T_iload (pc := 1095) C dL_law_1095 0 rfl ?_
      refine T_i2l (pc := 1097) C hv6.1 dL_law_1097 ?_
      refine T_lcmp (pc := 1098) C o10 hv6.1 dL_law_1098 ?_
      refine T_if_eq (pc := 1099) C 1104 dL_law_1099 rfl (lcm_rng _ _) (fun c11 => ?_) (fun c11 => ?_)
      · refine T_goto (pc := 1104) C 3728 dL_law_1104 rfl ?_
        refine T_iinc (pc := 3728) (L' := [(5, vi (i + 5)), (7, vi v6.2), (6, vi v5.2), (0, .ref sc), (1, .ref (adc 0)), (2, .ref (adm 0)), (3, .ref (adm 11)), (4, .ref (adm 12))]) C dL_law_3728 (Nat.le_of_ble_eq_true rfl) 7 rfl rfl ?_
        refine T_goto (pc := 3731) C 28 dL_law_3731 rfl ?_
        refine T_sub (L' := [(0, .ref sc), (1, .ref (adc 0)), (2, .ref (adm 0)), (3, .ref (adm 11)), (4, .ref (adm 12)), (5, vi (i + 5))]) [3, 4, 5, 6, 7, 0] rfl ?_
        exact ih (v5.1.1, v6.1, v5.1.2.2) (i + 5) _ _ (by unfold rng; omega) (stp (c := 1) ha (by decide)) (stp (c := 6) hb (by decide))
      · refine T_iconst (pc := 1102) C dL_law_1102 ?_
        exact T_none
  · refine T_iconst (pc := 1085) C dL_law_1085 ?_
    exact T_none
noncomputable def f_law_11 (sq : Nat) (xs : Nat → Int32) (N : Nat) (rec : SL → Int → Option Unit) (σ : SL) (i : Int) : Option Unit :=
  if 0 ≤ (i + 1) ∧ (i + 1) < (sq : Int) then (f_L_refund N σ (scv xs (i + 1))).bind fun v2 => (f_X13_refund N v2.1.2.1 (scv xs (i + 1))).bind fun v3 => (f_X13_thrown (v2.1.1, v3.1, v2.1.2.2).2.1).bind fun v4 => (if v4 = v2.2 then (if v2.2 = 0 then (if (lcm ((v2.1.1, v3.1, v2.1.2.2).2.2.1) v3.2) = 0 then rec (v2.1.1, v3.1, v2.1.2.2) (i + 5) else none) else rec (v2.1.1, v3.1, v2.1.2.2) (i + 5)) else none) else none
theorem lc_11 {X : vjX} {A : Nat → Prop} {Q : State → Prop} {cy : Nat → ClassId} {adc adm : Nat → Nat} {E : Nat → Nat → Nat} {G : va_G} {Z : vZ} {sa : Nat → Nat} {sc sq : Nat} {xs : Nat → Int32} (zk : Zk Z E) (zy : Zy Z E sa) (zs : ZS Z E) (zE : ZE Z) (zp : ZP Z) (zd : ZD Z E) (hst : X.2.1.stackTraces = false) (hZ : Zx Z X (YL cy adc adm E G A 9 Q)) (sx : SX X A sc sq xs) (hL : sq ≤ 2560) (C : Cx X (YL cy adc adm E G A 9 Q) cL_law RL (some .boolean) room_1 (tyL cy)) (N : Nat) (n : Nat) (rec : SL → Int → Option Unit) (ih : ∀ (σ : SL) (i : Int) (a bb : Nat), rng i → a + n * 1000 ≤ 600000 → bb + n * 13000 ≤ 7200000 → T X (YL cy adc adm E G A 9 Q) (fun (_ : Unit) => ∀ (q : SL) (a bb : Nat), a ≤ 600000 → bb ≤ 7200000 → J X (YL cy adc adm E G A 9 Q) a bb 3734 [] [] q) a bb 28 [(0, .ref sc), (1, .ref (adc 0)), (2, .ref (adm 0)), (3, .ref (adm 11)), (4, .ref (adm 12)), (5, vi i)] [] σ (rec σ i)) (σ : SL) (i : Int) (a bb : Nat) (hi : rng i) (hi0 : 0 ≤ i ∧ i < (sq : Int)) (ha : a + (n + 1) * 1000 ≤ 600000) (hb : bb + (n + 1) * 13000 ≤ 7200000) : T X (YL cy adc adm E G A 9 Q) (fun (_ : Unit) => ∀ (q : SL) (a bb : Nat), a ≤ 600000 → bb ≤ 7200000 → J X (YL cy adc adm E G A 9 Q) a bb 3734 [] [] q) a bb 1107 [(0, .ref sc), (1, .ref (adc 0)), (2, .ref (adm 0)), (3, .ref (adm 11)), (4, .ref (adm 12)), (5, vi i)] [] σ (f_law_11 sq xs N rec σ i) := by
  have hsl : sq ≤ 2147483647 := by omega
  have hsq : rng (sq : Int) := by unfold rng; omega
  unfold f_law_11
  refine T_aload_n (pc := 1107) C dL_law_1107 rfl 1 rfl ?_
  refine T_aload_n (pc := 1108) C dL_law_1108 rfl 0 rfl ?_
  refine T_iload (pc := 1109) C dL_law_1109 5 rfl ?_
  refine T_iconst (pc := 1111) C dL_law_1111 ?_
  refine T_iadd (pc := 1112) C dL_law_1112 ?_
  refine T_guard (fun g1 => ?_)
  refine T_sld sx (pc := 1113) C hsl g1 dL_law_1113 ?_
  refine T_aload_n (pc := 1114) C dL_law_1114 rfl 3 rfl ?_
  refine T_lh (pc := 1115) zk.1 hZ C [.ref (adc 0), vi (scv xs (i + 1)), .ref (adm 11)] [] (fun o h9 hw => ct_L_refund zk zy zs zE hst N σ (scv xs (i + 1)) (scv_rng _ _) hw o h9) kq_23 cm_L_refund rfl rfl (Nat.le_of_ble_eq_true rfl) ⟨⟨by decide, by decide⟩, by show _ + 1 ≤ room_1.cells; have := rmC1; omega, by show _ + 6 ≤ room_1.slots; have := rmS1; omega⟩ (a' := a + 1) (b' := bb + 6) ⟨rfl, rfl⟩ dL_law_1115 (fun v2 hv2 => ?_)
  refine T_istore (pc := 1118) (L' := [(6, vi v2.2), (0, .ref sc), (1, .ref (adc 0)), (2, .ref (adm 0)), (3, .ref (adm 11)), (4, .ref (adm 12)), (5, vi i)]) C dL_law_1118 (Nat.le_of_ble_eq_true rfl) rfl ?_
  refine T_aload_n (pc := 1120) C dL_law_1120 rfl 3 rfl ?_
  refine T_aload_n (pc := 1121) C dL_law_1121 rfl 1 rfl ?_
  refine T_iload (pc := 1122) C dL_law_1122 6 rfl ?_
  refine T_iconst (pc := 1124) C dL_law_1124 ?_
  refine T_iadd (pc := 1125) C dL_law_1125 ?_
  refine T_sld sx (pc := 1126) C hsl g1 dL_law_1126 ?_
  refine T_lmi (pc := 1127) C [vi (scv xs (i + 1))] [] (fun o h9 hw => ct_X13_refund N v2.1.2.1 (scv xs (i + 1)) (scv_rng _ _) hw o h9) kq_24 cm_X13_refund rcm rfl rfl (Nat.le_of_ble_eq_true rfl) ⟨⟨by decide, by decide⟩, by show _ + 0 ≤ room_1.cells; have := rmC1; omega, by show _ + 0 ≤ room_1.slots; have := rmS1; omega⟩ (a' := a + 1) (b' := bb + 6) ⟨rfl, rfl⟩ dL_law_1127 (fun v3 hv3 => ?_)
  refine T_istore (pc := 1130) (L' := [(7, vi v3.2), (6, vi v2.2), (0, .ref sc), (1, .ref (adc 0)), (2, .ref (adm 0)), (3, .ref (adm 11)), (4, .ref (adm 12)), (5, vi i)]) C dL_law_1130 (Nat.le_of_ble_eq_true rfl) rfl ?_
  refine T_aload_n (pc := 1132) C dL_law_1132 rfl 4 rfl ?_
  refine T_lmp (pc := 1133) C [] [] (fun o h9 hw => ct_X13_thrown (v2.1.1, v3.1, v2.1.2.2).2.1 hw o h9) kq_2 cm_X13_thrown rcm rfl rfl (Nat.le_of_ble_eq_true rfl) ⟨⟨by decide, by decide⟩, by show _ + 0 ≤ room_1.cells; have := rmC1; omega, by show _ + 0 ≤ room_1.slots; have := rmS1; omega⟩ (a' := a + 1) (b' := bb + 6) ⟨rfl, rfl⟩ dL_law_1133 (fun v4 hv4 => ?_)
  refine T_iload (pc := 1136) C dL_law_1136 1 rfl ?_
  refine T_icmp_eq (pc := 1138) C 1143 dL_law_1138 rfl hv4.1 hv2 (fun c5 => ?_) (fun c5 => ?_)
  · refine T_iload (pc := 1143) C dL_law_1143 1 rfl ?_
    refine T_if_ne (pc := 1145) C 1160 dL_law_1145 rfl hv2 (fun c6 => ?_) (fun c6 => ?_)
    · refine T_goto (pc := 1160) C 3728 dL_law_1160 rfl ?_
      refine T_iinc (pc := 3728) (L' := [(5, vi (i + 5)), (7, vi v3.2), (6, vi v2.2), (0, .ref sc), (1, .ref (adc 0)), (2, .ref (adm 0)), (3, .ref (adm 11)), (4, .ref (adm 12))]) C dL_law_3728 (Nat.le_of_ble_eq_true rfl) 7 rfl rfl ?_
      refine T_goto (pc := 3731) C 28 dL_law_3731 rfl ?_
      refine T_sub (L' := [(0, .ref sc), (1, .ref (adc 0)), (2, .ref (adm 0)), (3, .ref (adm 11)), (4, .ref (adm 12)), (5, vi (i + 5))]) [3, 4, 5, 6, 7, 0] rfl ?_
      exact ih (v2.1.1, v3.1, v2.1.2.2) (i + 5) _ _ (by unfold rng; omega) (stp (c := 1) ha (by decide)) (stp (c := 6) hb (by decide))
    · refine T_aload_n (pc := 1148) C dL_law_1148 rfl 5 rfl ?_
      refine T_iconst (pc := 1149) C dL_law_1149 ?_
      refine T_lald (pc := 1150) C dL_law_1150 (fun o7 => ?_)
      refine T_iload (pc := 1151) C dL_law_1151 0 rfl ?_
      refine T_i2l (pc := 1153) C hv3.1 dL_law_1153 ?_
      refine T_lcmp (pc := 1154) C o7 hv3.1 dL_law_1154 ?_
      refine T_if_eq (pc := 1155) C 1160 dL_law_1155 rfl (lcm_rng _ _) (fun c8 => ?_) (fun c8 => ?_)
      · refine T_goto (pc := 1160) C 3728 dL_law_1160 rfl ?_
        refine T_iinc (pc := 3728) (L' := [(5, vi (i + 5)), (7, vi v3.2), (6, vi v2.2), (0, .ref sc), (1, .ref (adc 0)), (2, .ref (adm 0)), (3, .ref (adm 11)), (4, .ref (adm 12))]) C dL_law_3728 (Nat.le_of_ble_eq_true rfl) 7 rfl rfl ?_
        refine T_goto (pc := 3731) C 28 dL_law_3731 rfl ?_
        refine T_sub (L' := [(0, .ref sc), (1, .ref (adc 0)), (2, .ref (adm 0)), (3, .ref (adm 11)), (4, .ref (adm 12)), (5, vi (i + 5))]) [3, 4, 5, 6, 7, 0] rfl ?_
        exact ih (v2.1.1, v3.1, v2.1.2.2) (i + 5) _ _ (by unfold rng; omega) (stp (c := 1) ha (by decide)) (stp (c := 6) hb (by decide))
      · refine T_iconst (pc := 1158) C dL_law_1158 ?_
        exact T_none
  · refine T_iconst (pc := 1141) C dL_law_1141 ?_
    exact T_none
noncomputable def f_law_12 (sq : Nat) (xs : Nat → Int32) (N : Nat) (rec : SL → Int → Option Unit) (σ : SL) (i : Int) : Option Unit :=
  if 0 ≤ (i + 1) ∧ (i + 1) < (sq : Int) then (f_L_advance N σ (scv xs (i + 1))).bind fun v2 => (f_X13_advance N v2.1.2.1 (scv xs (i + 1))).bind fun v3 => (f_X13_thrown (v2.1.1, v3.1, v2.1.2.2).2.1).bind fun v4 => (if v4 = v2.2 then (if v2.2 = 0 then (if (lcm ((v2.1.1, v3.1, v2.1.2.2).2.2.1) v3.2) = 0 then rec (v2.1.1, v3.1, v2.1.2.2) (i + 5) else none) else rec (v2.1.1, v3.1, v2.1.2.2) (i + 5)) else none) else none
theorem lc_12 {X : vjX} {A : Nat → Prop} {Q : State → Prop} {cy : Nat → ClassId} {adc adm : Nat → Nat} {E : Nat → Nat → Nat} {G : va_G} {Z : vZ} {sa : Nat → Nat} {sc sq : Nat} {xs : Nat → Int32} (zk : Zk Z E) (zy : Zy Z E sa) (zs : ZS Z E) (zE : ZE Z) (zp : ZP Z) (zd : ZD Z E) (hst : X.2.1.stackTraces = false) (hZ : Zx Z X (YL cy adc adm E G A 9 Q)) (sx : SX X A sc sq xs) (hL : sq ≤ 2560) (C : Cx X (YL cy adc adm E G A 9 Q) cL_law RL (some .boolean) room_1 (tyL cy)) (N : Nat) (n : Nat) (rec : SL → Int → Option Unit) (ih : ∀ (σ : SL) (i : Int) (a bb : Nat), rng i → a + n * 1000 ≤ 600000 → bb + n * 13000 ≤ 7200000 → T X (YL cy adc adm E G A 9 Q) (fun (_ : Unit) => ∀ (q : SL) (a bb : Nat), a ≤ 600000 → bb ≤ 7200000 → J X (YL cy adc adm E G A 9 Q) a bb 3734 [] [] q) a bb 28 [(0, .ref sc), (1, .ref (adc 0)), (2, .ref (adm 0)), (3, .ref (adm 11)), (4, .ref (adm 12)), (5, vi i)] [] σ (rec σ i)) (σ : SL) (i : Int) (a bb : Nat) (hi : rng i) (hi0 : 0 ≤ i ∧ i < (sq : Int)) (ha : a + (n + 1) * 1000 ≤ 600000) (hb : bb + (n + 1) * 13000 ≤ 7200000) : T X (YL cy adc adm E G A 9 Q) (fun (_ : Unit) => ∀ (q : SL) (a bb : Nat), a ≤ 600000 → bb ≤ 7200000 → J X (YL cy adc adm E G A 9 Q) a bb 3734 [] [] q) a bb 1163 [(0, .ref sc), (1, .ref (adc 0)), (2, .ref (adm 0)), (3, .ref (adm 11)), (4, .ref (adm 12)), (5, vi i)] [] σ (f_law_12 sq xs N rec σ i) := by
  have hsl : sq ≤ 2147483647 := by omega
  have hsq : rng (sq : Int) := by unfold rng; omega
  unfold f_law_12
  refine T_aload_n (pc := 1163) C dL_law_1163 rfl 1 rfl ?_
  refine T_aload_n (pc := 1164) C dL_law_1164 rfl 0 rfl ?_
  refine T_iload (pc := 1165) C dL_law_1165 5 rfl ?_
  refine T_iconst (pc := 1167) C dL_law_1167 ?_
  refine T_iadd (pc := 1168) C dL_law_1168 ?_
  refine T_guard (fun g1 => ?_)
  refine T_sld sx (pc := 1169) C hsl g1 dL_law_1169 ?_
  refine T_aload_n (pc := 1170) C dL_law_1170 rfl 3 rfl ?_
  refine T_lh (pc := 1171) zk.1 hZ C [.ref (adc 0), vi (scv xs (i + 1)), .ref (adm 11)] [] (fun o h9 hw => ct_L_advance zk zy zs zE hst N σ (scv xs (i + 1)) (scv_rng _ _) hw o h9) kq_25 cm_L_advance rfl rfl (Nat.le_of_ble_eq_true rfl) ⟨⟨by decide, by decide⟩, by show _ + 1 ≤ room_1.cells; have := rmC1; omega, by show _ + 6 ≤ room_1.slots; have := rmS1; omega⟩ (a' := a + 1) (b' := bb + 6) ⟨rfl, rfl⟩ dL_law_1171 (fun v2 hv2 => ?_)
  refine T_istore (pc := 1174) (L' := [(6, vi v2.2), (0, .ref sc), (1, .ref (adc 0)), (2, .ref (adm 0)), (3, .ref (adm 11)), (4, .ref (adm 12)), (5, vi i)]) C dL_law_1174 (Nat.le_of_ble_eq_true rfl) rfl ?_
  refine T_aload_n (pc := 1176) C dL_law_1176 rfl 3 rfl ?_
  refine T_aload_n (pc := 1177) C dL_law_1177 rfl 1 rfl ?_
  refine T_iload (pc := 1178) C dL_law_1178 6 rfl ?_
  refine T_iconst (pc := 1180) C dL_law_1180 ?_
  refine T_iadd (pc := 1181) C dL_law_1181 ?_
  refine T_sld sx (pc := 1182) C hsl g1 dL_law_1182 ?_
  refine T_lmi (pc := 1183) C [vi (scv xs (i + 1))] [] (fun o h9 hw => ct_X13_advance N v2.1.2.1 (scv xs (i + 1)) (scv_rng _ _) hw o h9) kq_26 cm_X13_advance rcm rfl rfl (Nat.le_of_ble_eq_true rfl) ⟨⟨by decide, by decide⟩, by show _ + 0 ≤ room_1.cells; have := rmC1; omega, by show _ + 0 ≤ room_1.slots; have := rmS1; omega⟩ (a' := a + 1) (b' := bb + 6) ⟨rfl, rfl⟩ dL_law_1183 (fun v3 hv3 => ?_)
  refine T_istore (pc := 1186) (L' := [(7, vi v3.2), (6, vi v2.2), (0, .ref sc), (1, .ref (adc 0)), (2, .ref (adm 0)), (3, .ref (adm 11)), (4, .ref (adm 12)), (5, vi i)]) C dL_law_1186 (Nat.le_of_ble_eq_true rfl) rfl ?_
  refine T_aload_n (pc := 1188) C dL_law_1188 rfl 4 rfl ?_
  refine T_lmp (pc := 1189) C [] [] (fun o h9 hw => ct_X13_thrown (v2.1.1, v3.1, v2.1.2.2).2.1 hw o h9) kq_2 cm_X13_thrown rcm rfl rfl (Nat.le_of_ble_eq_true rfl) ⟨⟨by decide, by decide⟩, by show _ + 0 ≤ room_1.cells; have := rmC1; omega, by show _ + 0 ≤ room_1.slots; have := rmS1; omega⟩ (a' := a + 1) (b' := bb + 6) ⟨rfl, rfl⟩ dL_law_1189 (fun v4 hv4 => ?_)
  refine T_iload (pc := 1192) C dL_law_1192 1 rfl ?_
  refine T_icmp_eq (pc := 1194) C 1199 dL_law_1194 rfl hv4.1 hv2 (fun c5 => ?_) (fun c5 => ?_)
  · refine T_iload (pc := 1199) C dL_law_1199 1 rfl ?_
    refine T_if_ne (pc := 1201) C 1216 dL_law_1201 rfl hv2 (fun c6 => ?_) (fun c6 => ?_)
    · refine T_goto (pc := 1216) C 3728 dL_law_1216 rfl ?_
      refine T_iinc (pc := 3728) (L' := [(5, vi (i + 5)), (7, vi v3.2), (6, vi v2.2), (0, .ref sc), (1, .ref (adc 0)), (2, .ref (adm 0)), (3, .ref (adm 11)), (4, .ref (adm 12))]) C dL_law_3728 (Nat.le_of_ble_eq_true rfl) 7 rfl rfl ?_
      refine T_goto (pc := 3731) C 28 dL_law_3731 rfl ?_
      refine T_sub (L' := [(0, .ref sc), (1, .ref (adc 0)), (2, .ref (adm 0)), (3, .ref (adm 11)), (4, .ref (adm 12)), (5, vi (i + 5))]) [3, 4, 5, 6, 7, 0] rfl ?_
      exact ih (v2.1.1, v3.1, v2.1.2.2) (i + 5) _ _ (by unfold rng; omega) (stp (c := 1) ha (by decide)) (stp (c := 6) hb (by decide))
    · refine T_aload_n (pc := 1204) C dL_law_1204 rfl 5 rfl ?_
      refine T_iconst (pc := 1205) C dL_law_1205 ?_
      refine T_lald (pc := 1206) C dL_law_1206 (fun o7 => ?_)
      refine T_iload (pc := 1207) C dL_law_1207 0 rfl ?_
      refine T_i2l (pc := 1209) C hv3.1 dL_law_1209 ?_
      refine T_lcmp (pc := 1210) C o7 hv3.1 dL_law_1210 ?_
      refine T_if_eq (pc := 1211) C 1216 dL_law_1211 rfl (lcm_rng _ _) (fun c8 => ?_) (fun c8 => ?_)
      · refine T_goto (pc := 1216) C 3728 dL_law_1216 rfl ?_
        refine T_iinc (pc := 3728) (L' := [(5, vi (i + 5)), (7, vi v3.2), (6, vi v2.2), (0, .ref sc), (1, .ref (adc 0)), (2, .ref (adm 0)), (3, .ref (adm 11)), (4, .ref (adm 12))]) C dL_law_3728 (Nat.le_of_ble_eq_true rfl) 7 rfl rfl ?_
        refine T_goto (pc := 3731) C 28 dL_law_3731 rfl ?_
        refine T_sub (L' := [(0, .ref sc), (1, .ref (adc 0)), (2, .ref (adm 0)), (3, .ref (adm 11)), (4, .ref (adm 12)), (5, vi (i + 5))]) [3, 4, 5, 6, 7, 0] rfl ?_
        exact ih (v2.1.1, v3.1, v2.1.2.2) (i + 5) _ _ (by unfold rng; omega) (stp (c := 1) ha (by decide)) (stp (c := 6) hb (by decide))
      · refine T_iconst (pc := 1214) C dL_law_1214 ?_
        exact T_none
  · refine T_iconst (pc := 1197) C dL_law_1197 ?_
    exact T_none
noncomputable def f_law_13 (sq : Nat) (xs : Nat → Int32) (N : Nat) (rec : SL → Int → Option Unit) (σ : SL) (i : Int) : Option Unit :=
  (f_X12_minute σ.1).bind fun v1 => (f_X13_minute σ.2.1).bind fun v2 => (if v1 = v2.2 then rec (σ.1, v2.1, σ.2.2) (i + 5) else none)
theorem lc_13 {X : vjX} {A : Nat → Prop} {Q : State → Prop} {cy : Nat → ClassId} {adc adm : Nat → Nat} {E : Nat → Nat → Nat} {G : va_G} {Z : vZ} {sa : Nat → Nat} {sc sq : Nat} {xs : Nat → Int32} (zk : Zk Z E) (zy : Zy Z E sa) (zs : ZS Z E) (zE : ZE Z) (zp : ZP Z) (zd : ZD Z E) (hst : X.2.1.stackTraces = false) (hZ : Zx Z X (YL cy adc adm E G A 9 Q)) (sx : SX X A sc sq xs) (hL : sq ≤ 2560) (C : Cx X (YL cy adc adm E G A 9 Q) cL_law RL (some .boolean) room_1 (tyL cy)) (N : Nat) (n : Nat) (rec : SL → Int → Option Unit) (ih : ∀ (σ : SL) (i : Int) (a bb : Nat), rng i → a + n * 1000 ≤ 600000 → bb + n * 13000 ≤ 7200000 → T X (YL cy adc adm E G A 9 Q) (fun (_ : Unit) => ∀ (q : SL) (a bb : Nat), a ≤ 600000 → bb ≤ 7200000 → J X (YL cy adc adm E G A 9 Q) a bb 3734 [] [] q) a bb 28 [(0, .ref sc), (1, .ref (adc 0)), (2, .ref (adm 0)), (3, .ref (adm 11)), (4, .ref (adm 12)), (5, vi i)] [] σ (rec σ i)) (σ : SL) (i : Int) (a bb : Nat) (hi : rng i) (hi0 : 0 ≤ i ∧ i < (sq : Int)) (ha : a + (n + 1) * 1000 ≤ 600000) (hb : bb + (n + 1) * 13000 ≤ 7200000) : T X (YL cy adc adm E G A 9 Q) (fun (_ : Unit) => ∀ (q : SL) (a bb : Nat), a ≤ 600000 → bb ≤ 7200000 → J X (YL cy adc adm E G A 9 Q) a bb 3734 [] [] q) a bb 1219 [(0, .ref sc), (1, .ref (adc 0)), (2, .ref (adm 0)), (3, .ref (adm 11)), (4, .ref (adm 12)), (5, vi i)] [] σ (f_law_13 sq xs N rec σ i) := by
  have hsl : sq ≤ 2147483647 := by omega
  have hsq : rng (sq : Int) := by unfold rng; omega
  unfold f_law_13
  refine T_aload_n (pc := 1219) C dL_law_1219 rfl 1 rfl ?_
  refine T_lzp (pc := 1220) zk.1 hZ C [] [] (fun o h9 hw => ct_X12_minute zk zy σ.1 hw o h9) kq_27 cm_X12_minute (rcc (rfl : kd 0 = 12) (by decide) (fun _ => rfl) rfl) rfl rfl (Nat.le_of_ble_eq_true rfl) ⟨⟨by decide, by decide⟩, by show _ + 0 ≤ room_1.cells; have := rmC1; omega, by show _ + 0 ≤ room_1.slots; have := rmS1; omega⟩ (a' := a + 0) (b' := bb + 0) ⟨rfl, rfl⟩ dL_law_1220 (fun v1 hv1 => ?_)
  refine T_aload_n (pc := 1223) C dL_law_1223 rfl 2 rfl ?_
  refine T_lmi (pc := 1224) C [] [vi v1] (fun o h9 hw => ct_X13_minute σ.2.1 hw o h9) kq_28 cm_X13_minute rcm rfl rfl (Nat.le_of_ble_eq_true rfl) ⟨⟨by decide, by decide⟩, by show _ + 0 ≤ room_1.cells; have := rmC1; omega, by show _ + 0 ≤ room_1.slots; have := rmS1; omega⟩ (a' := a + 0) (b' := bb + 0) ⟨rfl, rfl⟩ dL_law_1224 (fun v2 hv2 => ?_)
  refine T_icmp_eq (pc := 1227) C 3728 dL_law_1227 rfl hv1.1 hv2.1 (fun c3 => ?_) (fun c3 => ?_)
  · refine T_iinc (pc := 3728) (L' := [(5, vi (i + 5)), (0, .ref sc), (1, .ref (adc 0)), (2, .ref (adm 0)), (3, .ref (adm 11)), (4, .ref (adm 12))]) C dL_law_3728 (Nat.le_of_ble_eq_true rfl) 5 rfl rfl ?_
    refine T_goto (pc := 3731) C 28 dL_law_3731 rfl ?_
    refine T_sub (L' := [(0, .ref sc), (1, .ref (adc 0)), (2, .ref (adm 0)), (3, .ref (adm 11)), (4, .ref (adm 12)), (5, vi (i + 5))]) [1, 2, 3, 4, 5, 0] rfl ?_
    exact ih (σ.1, v2.1, σ.2.2) (i + 5) _ _ (by unfold rng; omega) (stp (c := 0) ha (by decide)) (stp (c := 0) hb (by decide))
  · refine T_iconst (pc := 1230) C dL_law_1230 ?_
    exact T_none
noncomputable def f_law_14 (sq : Nat) (xs : Nat → Int32) (N : Nat) (rec : SL → Int → Option Unit) (σ : SL) (i : Int) : Option Unit :=
  (f_X12_isRaining σ.1).bind fun v1 => (f_X13_isRaining σ.2.1).bind fun v2 => (if v1 = v2.2 then rec (σ.1, v2.1, σ.2.2) (i + 5) else none)
theorem lc_14 {X : vjX} {A : Nat → Prop} {Q : State → Prop} {cy : Nat → ClassId} {adc adm : Nat → Nat} {E : Nat → Nat → Nat} {G : va_G} {Z : vZ} {sa : Nat → Nat} {sc sq : Nat} {xs : Nat → Int32} (zk : Zk Z E) (zy : Zy Z E sa) (zs : ZS Z E) (zE : ZE Z) (zp : ZP Z) (zd : ZD Z E) (hst : X.2.1.stackTraces = false) (hZ : Zx Z X (YL cy adc adm E G A 9 Q)) (sx : SX X A sc sq xs) (hL : sq ≤ 2560) (C : Cx X (YL cy adc adm E G A 9 Q) cL_law RL (some .boolean) room_1 (tyL cy)) (N : Nat) (n : Nat) (rec : SL → Int → Option Unit) (ih : ∀ (σ : SL) (i : Int) (a bb : Nat), rng i → a + n * 1000 ≤ 600000 → bb + n * 13000 ≤ 7200000 → T X (YL cy adc adm E G A 9 Q) (fun (_ : Unit) => ∀ (q : SL) (a bb : Nat), a ≤ 600000 → bb ≤ 7200000 → J X (YL cy adc adm E G A 9 Q) a bb 3734 [] [] q) a bb 28 [(0, .ref sc), (1, .ref (adc 0)), (2, .ref (adm 0)), (3, .ref (adm 11)), (4, .ref (adm 12)), (5, vi i)] [] σ (rec σ i)) (σ : SL) (i : Int) (a bb : Nat) (hi : rng i) (hi0 : 0 ≤ i ∧ i < (sq : Int)) (ha : a + (n + 1) * 1000 ≤ 600000) (hb : bb + (n + 1) * 13000 ≤ 7200000) : T X (YL cy adc adm E G A 9 Q) (fun (_ : Unit) => ∀ (q : SL) (a bb : Nat), a ≤ 600000 → bb ≤ 7200000 → J X (YL cy adc adm E G A 9 Q) a bb 3734 [] [] q) a bb 1232 [(0, .ref sc), (1, .ref (adc 0)), (2, .ref (adm 0)), (3, .ref (adm 11)), (4, .ref (adm 12)), (5, vi i)] [] σ (f_law_14 sq xs N rec σ i) := by
  have hsl : sq ≤ 2147483647 := by omega
  have hsq : rng (sq : Int) := by unfold rng; omega
  unfold f_law_14
  refine T_aload_n (pc := 1232) C dL_law_1232 rfl 1 rfl ?_
  refine T_lzp (pc := 1233) zk.1 hZ C [] [] (fun o h9 hw => ct_X12_isRaining zk zy σ.1 hw o h9) kq_29 cm_X12_isRaining (rcc (rfl : kd 0 = 12) (by decide) (fun _ => rfl) rfl) rfl rfl (Nat.le_of_ble_eq_true rfl) ⟨⟨by decide, by decide⟩, by show _ + 0 ≤ room_1.cells; have := rmC1; omega, by show _ + 0 ≤ room_1.slots; have := rmS1; omega⟩ (a' := a + 0) (b' := bb + 0) ⟨rfl, rfl⟩ dL_law_1233 (fun v1 hv1 => ?_)
  refine T_aload_n (pc := 1236) C dL_law_1236 rfl 2 rfl ?_
  refine T_lmi (pc := 1237) C [] [vi v1] (fun o h9 hw => ct_X13_isRaining σ.2.1 hw o h9) kq_30 cm_X13_isRaining rcm rfl rfl (Nat.le_of_ble_eq_true rfl) ⟨⟨by decide, by decide⟩, by show _ + 0 ≤ room_1.cells; have := rmC1; omega, by show _ + 0 ≤ room_1.slots; have := rmS1; omega⟩ (a' := a + 0) (b' := bb + 0) ⟨rfl, rfl⟩ dL_law_1237 (fun v2 hv2 => ?_)
  refine T_icmp_eq (pc := 1240) C 3728 dL_law_1240 rfl hv1.1 hv2.1 (fun c3 => ?_) (fun c3 => ?_)
  · refine T_iinc (pc := 3728) (L' := [(5, vi (i + 5)), (0, .ref sc), (1, .ref (adc 0)), (2, .ref (adm 0)), (3, .ref (adm 11)), (4, .ref (adm 12))]) C dL_law_3728 (Nat.le_of_ble_eq_true rfl) 5 rfl rfl ?_
    refine T_goto (pc := 3731) C 28 dL_law_3731 rfl ?_
    refine T_sub (L' := [(0, .ref sc), (1, .ref (adc 0)), (2, .ref (adm 0)), (3, .ref (adm 11)), (4, .ref (adm 12)), (5, vi (i + 5))]) [1, 2, 3, 4, 5, 0] rfl ?_
    exact ih (σ.1, v2.1, σ.2.2) (i + 5) _ _ (by unfold rng; omega) (stp (c := 0) ha (by decide)) (stp (c := 0) hb (by decide))
  · refine T_iconst (pc := 1243) C dL_law_1243 ?_
    exact T_none
noncomputable def f_law_15 (sq : Nat) (xs : Nat → Int32) (N : Nat) (rec : SL → Int → Option Unit) (σ : SL) (i : Int) : Option Unit :=
  (f_X12_stopCount σ.1).bind fun v1 => (f_X13_stopCount σ.2.1).bind fun v2 => (if v1 = v2.2 then rec (σ.1, v2.1, σ.2.2) (i + 5) else none)
theorem lc_15 {X : vjX} {A : Nat → Prop} {Q : State → Prop} {cy : Nat → ClassId} {adc adm : Nat → Nat} {E : Nat → Nat → Nat} {G : va_G} {Z : vZ} {sa : Nat → Nat} {sc sq : Nat} {xs : Nat → Int32} (zk : Zk Z E) (zy : Zy Z E sa) (zs : ZS Z E) (zE : ZE Z) (zp : ZP Z) (zd : ZD Z E) (hst : X.2.1.stackTraces = false) (hZ : Zx Z X (YL cy adc adm E G A 9 Q)) (sx : SX X A sc sq xs) (hL : sq ≤ 2560) (C : Cx X (YL cy adc adm E G A 9 Q) cL_law RL (some .boolean) room_1 (tyL cy)) (N : Nat) (n : Nat) (rec : SL → Int → Option Unit) (ih : ∀ (σ : SL) (i : Int) (a bb : Nat), rng i → a + n * 1000 ≤ 600000 → bb + n * 13000 ≤ 7200000 → T X (YL cy adc adm E G A 9 Q) (fun (_ : Unit) => ∀ (q : SL) (a bb : Nat), a ≤ 600000 → bb ≤ 7200000 → J X (YL cy adc adm E G A 9 Q) a bb 3734 [] [] q) a bb 28 [(0, .ref sc), (1, .ref (adc 0)), (2, .ref (adm 0)), (3, .ref (adm 11)), (4, .ref (adm 12)), (5, vi i)] [] σ (rec σ i)) (σ : SL) (i : Int) (a bb : Nat) (hi : rng i) (hi0 : 0 ≤ i ∧ i < (sq : Int)) (ha : a + (n + 1) * 1000 ≤ 600000) (hb : bb + (n + 1) * 13000 ≤ 7200000) : T X (YL cy adc adm E G A 9 Q) (fun (_ : Unit) => ∀ (q : SL) (a bb : Nat), a ≤ 600000 → bb ≤ 7200000 → J X (YL cy adc adm E G A 9 Q) a bb 3734 [] [] q) a bb 1245 [(0, .ref sc), (1, .ref (adc 0)), (2, .ref (adm 0)), (3, .ref (adm 11)), (4, .ref (adm 12)), (5, vi i)] [] σ (f_law_15 sq xs N rec σ i) := by
  have hsl : sq ≤ 2147483647 := by omega
  have hsq : rng (sq : Int) := by unfold rng; omega
  unfold f_law_15
  refine T_aload_n (pc := 1245) C dL_law_1245 rfl 1 rfl ?_
  refine T_lzp (pc := 1246) zk.1 hZ C [] [] (fun o h9 hw => ct_X12_stopCount zk zy σ.1 hw o h9) kq_31 cm_X12_stopCount (rcc (rfl : kd 0 = 12) (by decide) (fun _ => rfl) rfl) rfl rfl (Nat.le_of_ble_eq_true rfl) ⟨⟨by decide, by decide⟩, by show _ + 0 ≤ room_1.cells; have := rmC1; omega, by show _ + 0 ≤ room_1.slots; have := rmS1; omega⟩ (a' := a + 0) (b' := bb + 0) ⟨rfl, rfl⟩ dL_law_1246 (fun v1 hv1 => ?_)
  refine T_aload_n (pc := 1249) C dL_law_1249 rfl 2 rfl ?_
  refine T_lmi (pc := 1250) C [] [vi v1] (fun o h9 hw => ct_X13_stopCount σ.2.1 hw o h9) kq_32 cm_X13_stopCount rcm rfl rfl (Nat.le_of_ble_eq_true rfl) ⟨⟨by decide, by decide⟩, by show _ + 0 ≤ room_1.cells; have := rmC1; omega, by show _ + 0 ≤ room_1.slots; have := rmS1; omega⟩ (a' := a + 0) (b' := bb + 0) ⟨rfl, rfl⟩ dL_law_1250 (fun v2 hv2 => ?_)
  refine T_icmp_eq (pc := 1253) C 3728 dL_law_1253 rfl hv1.1 hv2.1 (fun c3 => ?_) (fun c3 => ?_)
  · refine T_iinc (pc := 3728) (L' := [(5, vi (i + 5)), (0, .ref sc), (1, .ref (adc 0)), (2, .ref (adm 0)), (3, .ref (adm 11)), (4, .ref (adm 12))]) C dL_law_3728 (Nat.le_of_ble_eq_true rfl) 5 rfl rfl ?_
    refine T_goto (pc := 3731) C 28 dL_law_3731 rfl ?_
    refine T_sub (L' := [(0, .ref sc), (1, .ref (adc 0)), (2, .ref (adm 0)), (3, .ref (adm 11)), (4, .ref (adm 12)), (5, vi (i + 5))]) [1, 2, 3, 4, 5, 0] rfl ?_
    exact ih (σ.1, v2.1, σ.2.2) (i + 5) _ _ (by unfold rng; omega) (stp (c := 0) ha (by decide)) (stp (c := 0) hb (by decide))
  · refine T_iconst (pc := 1256) C dL_law_1256 ?_
    exact T_none
