/-! the law's loop, cases 40 and on -/
noncomputable def f_law_40 (sq : Nat) (xs : Nat → Int32) (N : Nat) (rec : SL → Int → Option Unit) (σ : SL) (i : Int) : Option Unit :=
  if 0 ≤ (i + 1) ∧ (i + 1) < (sq : Int) then (f_L_ticketFrom N σ (scv xs (i + 1))).bind fun v2 => (f_X13_ticketFrom N v2.1.2.1 (scv xs (i + 1))).bind fun v3 => (f_X13_thrown (v2.1.1, v3.1, v2.1.2.2).2.1).bind fun v4 => (if v4 = v2.2 then (if v2.2 = 0 then (if (lcm ((v2.1.1, v3.1, v2.1.2.2).2.2.1) v3.2) = 0 then rec (v2.1.1, v3.1, v2.1.2.2) (i + 5) else none) else rec (v2.1.1, v3.1, v2.1.2.2) (i + 5)) else none) else none
theorem lc_40 {X : vjX} {A : Nat → Prop} {Q : State → Prop} {cy : Nat → ClassId} {adc adm : Nat → Nat} {E : Nat → Nat → Nat} {G : va_G} {Z : vZ} {sa : Nat → Nat} {sc sq : Nat} {xs : Nat → Int32} (zk : Zk Z E) (zy : Zy Z E sa) (zs : ZS Z E) (zE : ZE Z) (zp : ZP Z) (zd : ZD Z E) (hst : X.2.1.stackTraces = false) (hZ : Zx Z X (YL cy adc adm E G A 9 Q)) (sx : SX X A sc sq xs) (hL : sq ≤ 2560) (C : Cx X (YL cy adc adm E G A 9 Q) cL_law RL (some .boolean) room_1 (tyL cy)) (N : Nat) (n : Nat) (rec : SL → Int → Option Unit) (ih : ∀ (σ : SL) (i : Int) (a bb : Nat), rng i → a + n * 1000 ≤ 600000 → bb + n * 13000 ≤ 7200000 → T X (YL cy adc adm E G A 9 Q) (fun (_ : Unit) => ∀ (q : SL) (a bb : Nat), a ≤ 600000 → bb ≤ 7200000 → J X (YL cy adc adm E G A 9 Q) a bb 3734 [] [] q) a bb 28 [(0, .ref sc), (1, .ref (adc 0)), (2, .ref (adm 0)), (3, .ref (adm 11)), (4, .ref (adm 12)), (5, vi i)] [] σ (rec σ i)) (σ : SL) (i : Int) (a bb : Nat) (hi : rng i) (hi0 : 0 ≤ i ∧ i < (sq : Int)) (ha : a + (n + 1) * 1000 ≤ 600000) (hb : bb + (n + 1) * 13000 ≤ 7200000) : T X (YL cy adc adm E G A 9 Q) (fun (_ : Unit) => ∀ (q : SL) (a bb : Nat), a ≤ 600000 → bb ≤ 7200000 → J X (YL cy adc adm E G A 9 Q) a bb 3734 [] [] q) a bb 2806 [(0, .ref sc), (1, .ref (adc 0)), (2, .ref (adm 0)), (3, .ref (adm 11)), (4, .ref (adm 12)), (5, vi i)] [] σ (f_law_40 sq xs N rec σ i) := by
  have hsl : sq ≤ 2147483647 := by omega
  have hsq : rng (sq : Int) := by unfold rng; omega
  unfold f_law_40
  refine T_aload_n (pc := 2806) C dL_law_2806 rfl 1 rfl ?_
  refine T_aload_n (pc := 2807) C dL_law_2807 rfl 0 rfl ?_
  refine T_iload (pc := 2808) C dL_law_2808 5 rfl ?_
  refine T_iconst (pc := 2810) C dL_law_2810 ?_
  refine T_iadd (pc := 2811) C dL_law_2811 ?_
  refine T_guard (fun g1 => ?_)
  refine T_sld sx (pc := 2812) C hsl g1 dL_law_2812 ?_
  refine T_aload_n (pc := 2813) C dL_law_2813 rfl 3 rfl ?_
  refine T_lh (pc := 2814) zk.1 hZ C [.ref (adc 0), vi (scv xs (i + 1)), .ref (adm 11)] [] (fun o h9 hw => ct_L_ticketFrom zk zy zs zE hst N σ (scv xs (i + 1)) (scv_rng _ _) hw o h9) kq_81 cm_L_ticketFrom rfl rfl (Nat.le_of_ble_eq_true rfl) ⟨⟨by decide, by decide⟩, by show _ + 1 ≤ room_1.cells; have := rmC1; omega, by show _ + 6 ≤ room_1.slots; have := rmS1; omega⟩ (a' := a + 1) (b' := bb + 6) ⟨rfl, rfl⟩ dL_law_2814 (fun v2 hv2 => ?_)
  refine T_istore (pc := 2817) (L' := [(6, vi v2.2), (0, .ref sc), (1, .ref (adc 0)), (2, .ref (adm 0)), (3, .ref (adm 11)), (4, .ref (adm 12)), (5, vi i)]) C dL_law_2817 (Nat.le_of_ble_eq_true rfl) rfl ?_
  refine T_aload_n (pc := 2819) C dL_law_2819 rfl 3 rfl ?_
  refine T_aload_n (pc := 2820) C dL_law_2820 rfl 1 rfl ?_
  refine T_iload (pc := 2821) C dL_law_2821 6 rfl ?_
  refine T_iconst (pc := 2823) C dL_law_2823 ?_
  refine T_iadd (pc := 2824) C dL_law_2824 ?_
  refine T_sld sx (pc := 2825) C hsl g1 dL_law_2825 ?_
  refine T_lmi (pc := 2826) C [vi (scv xs (i + 1))] [] (fun o h9 hw => ct_X13_ticketFrom N v2.1.2.1 (scv xs (i + 1)) (scv_rng _ _) hw o h9) kq_82 cm_X13_ticketFrom rcm rfl rfl (Nat.le_of_ble_eq_true rfl) ⟨⟨by decide, by decide⟩, by show _ + 0 ≤ room_1.cells; have := rmC1; omega, by show _ + 0 ≤ room_1.slots; have := rmS1; omega⟩ (a' := a + 1) (b' := bb + 6) ⟨rfl, rfl⟩ dL_law_2826 (fun v3 hv3 => ?_)
  refine T_istore (pc := 2829) (L' := [(7, vi v3.2), (6, vi v2.2), (0, .ref sc), (1, .ref (adc 0)), (2, .ref (adm 0)), (3, .ref (adm 11)), (4, .ref (adm 12)), (5, vi i)]) C dL_law_2829 (Nat.le_of_ble_eq_true rfl) rfl ?_
  refine T_aload_n (pc := 2831) C dL_law_2831 rfl 4 rfl ?_
  refine T_lmp (pc := 2832) C [] [] (fun o h9 hw => ct_X13_thrown (v2.1.1, v3.1, v2.1.2.2).2.1 hw o h9) kq_2 cm_X13_thrown rcm rfl rfl (Nat.le_of_ble_eq_true rfl) ⟨⟨by decide, by decide⟩, by show _ + 0 ≤ room_1.cells; have := rmC1; omega, by show _ + 0 ≤ room_1.slots; have := rmS1; omega⟩ (a' := a + 1) (b' := bb + 6) ⟨rfl, rfl⟩ dL_law_2832 (fun v4 hv4 => ?_)
  refine T_iload (pc := 2835) C dL_law_2835 1 rfl ?_
  refine T_icmp_eq (pc := 2837) C 2842 dL_law_2837 rfl hv4.1 hv2 (fun c5 => ?_) (fun c5 => ?_)
  · refine T_iload (pc := 2842) C dL_law_2842 1 rfl ?_
    refine T_if_ne (pc := 2844) C 2859 dL_law_2844 rfl hv2 (fun c6 => ?_) (fun c6 => ?_)
    · refine T_goto (pc := 2859) C 3728 dL_law_2859 rfl ?_
      refine T_iinc (pc := 3728) (L' := [(5, vi (i + 5)), (7, vi v3.2), (6, vi v2.2), (0, .ref sc), (1, .ref (adc 0)), (2, .ref (adm 0)), (3, .ref (adm 11)), (4, .ref (adm 12))]) C dL_law_3728 (Nat.le_of_ble_eq_true rfl) 7 rfl rfl ?_
      refine T_goto (pc := 3731) C 28 dL_law_3731 rfl ?_
      refine T_sub (L' := [(0, .ref sc), (1, .ref (adc 0)), (2, .ref (adm 0)), (3, .ref (adm 11)), (4, .ref (adm 12)), (5, vi (i + 5))]) [3, 4, 5, 6, 7, 0] rfl ?_
      exact ih (v2.1.1, v3.1, v2.1.2.2) (i + 5) _ _ (by unfold rng; omega) (stp (c := 1) ha (by decide)) (stp (c := 6) hb (by decide))
    · refine T_aload_n (pc := 2847) C dL_law_2847 rfl 5 rfl ?_
      refine T_iconst (pc := 2848) C dL_law_2848 ?_
      refine T_lald (pc := 2849) C dL_law_2849 (fun o7 => ?_)
      refine T_iload (pc := 2850) C dL_law_2850 0 rfl ?_
      refine T_i2l (pc := 2852) C hv3.1 dL_law_2852 ?_
      refine T_lcmp (pc := 2853) C o7 hv3.1 dL_law_2853 ?_
      refine T_if_eq (pc := 2854) C 2859 dL_law_2854 rfl (lcm_rng _ _) (fun c8 => ?_) (fun c8 => ?_)
      · refine T_goto (pc := 2859) C 3728 dL_law_2859 rfl ?_
        refine T_iinc (pc := 3728) (L' := [(5, vi (i + 5)), (7, vi v3.2), (6, vi v2.2), (0, .ref sc), (1, .ref (adc 0)), (2, .ref (adm 0)), (3, .ref (adm 11)), (4, .ref (adm 12))]) C dL_law_3728 (Nat.le_of_ble_eq_true rfl) 7 rfl rfl ?_
        refine T_goto (pc := 3731) C 28 dL_law_3731 rfl ?_
        refine T_sub (L' := [(0, .ref sc), (1, .ref (adc 0)), (2, .ref (adm 0)), (3, .ref (adm 11)), (4, .ref (adm 12)), (5, vi (i + 5))]) [3, 4, 5, 6, 7, 0] rfl ?_
        exact ih (v2.1.1, v3.1, v2.1.2.2) (i + 5) _ _ (by unfold rng; omega) (stp (c := 1) ha (by decide)) (stp (c := 6) hb (by decide))
      · refine T_iconst (pc := 2857) C dL_law_2857 ?_
        exact T_none
  · refine T_iconst (pc := 2840) C dL_law_2840 ?_
    exact T_none
noncomputable def f_law_41 (sq : Nat) (xs : Nat → Int32) (N : Nat) (rec : SL → Int → Option Unit) (σ : SL) (i : Int) : Option Unit :=
  if 0 ≤ (i + 1) ∧ (i + 1) < (sq : Int) then (f_L_ticketTo N σ (scv xs (i + 1))).bind fun v2 => (f_X13_ticketTo N v2.1.2.1 (scv xs (i + 1))).bind fun v3 => (f_X13_thrown (v2.1.1, v3.1, v2.1.2.2).2.1).bind fun v4 => (if v4 = v2.2 then (if v2.2 = 0 then (if (lcm ((v2.1.1, v3.1, v2.1.2.2).2.2.1) v3.2) = 0 then rec (v2.1.1, v3.1, v2.1.2.2) (i + 5) else none) else rec (v2.1.1, v3.1, v2.1.2.2) (i + 5)) else none) else none
theorem lc_41 {X : vjX} {A : Nat → Prop} {Q : State → Prop} {cy : Nat → ClassId} {adc adm : Nat → Nat} {E : Nat → Nat → Nat} {G : va_G} {Z : vZ} {sa : Nat → Nat} {sc sq : Nat} {xs : Nat → Int32} (zk : Zk Z E) (zy : Zy Z E sa) (zs : ZS Z E) (zE : ZE Z) (zp : ZP Z) (zd : ZD Z E) (hst : X.2.1.stackTraces = false) (hZ : Zx Z X (YL cy adc adm E G A 9 Q)) (sx : SX X A sc sq xs) (hL : sq ≤ 2560) (C : Cx X (YL cy adc adm E G A 9 Q) cL_law RL (some .boolean) room_1 (tyL cy)) (N : Nat) (n : Nat) (rec : SL → Int → Option Unit) (ih : ∀ (σ : SL) (i : Int) (a bb : Nat), rng i → a + n * 1000 ≤ 600000 → bb + n * 13000 ≤ 7200000 → T X (YL cy adc adm E G A 9 Q) (fun (_ : Unit) => ∀ (q : SL) (a bb : Nat), a ≤ 600000 → bb ≤ 7200000 → J X (YL cy adc adm E G A 9 Q) a bb 3734 [] [] q) a bb 28 [(0, .ref sc), (1, .ref (adc 0)), (2, .ref (adm 0)), (3, .ref (adm 11)), (4, .ref (adm 12)), (5, vi i)] [] σ (rec σ i)) (σ : SL) (i : Int) (a bb : Nat) (hi : rng i) (hi0 : 0 ≤ i ∧ i < (sq : Int)) (ha : a + (n + 1) * 1000 ≤ 600000) (hb : bb + (n + 1) * 13000 ≤ 7200000) : T X (YL cy adc adm E G A 9 Q) (fun (_ : Unit) => ∀ (q : SL) (a bb : Nat), a ≤ 600000 → bb ≤ 7200000 → J X (YL cy adc adm E G A 9 Q) a bb 3734 [] [] q) a bb 2862 [(0, .ref sc), (1, .ref (adc 0)), (2, .ref (adm 0)), (3, .ref (adm 11)), (4, .ref (adm 12)), (5, vi i)] [] σ (f_law_41 sq xs N rec σ i) := by
  have hsl : sq ≤ 2147483647 := by omega
  have hsq : rng (sq : Int) := by unfold rng; omega
  unfold f_law_41
  refine T_aload_n (pc := 2862) C dL_law_2862 rfl 1 rfl ?_
  refine T_aload_n (pc := 2863) C dL_law_2863 rfl 0 rfl ?_
  refine T_iload (pc := 2864) C dL_law_2864 5 rfl ?_
  refine T_iconst (pc := 2866) C dL_law_2866 ?_
  refine T_iadd (pc := 2867) C dL_law_2867 ?_
  refine T_guard (fun g1 => ?_)
  refine T_sld sx (pc := 2868) C hsl g1 dL_law_2868 ?_
  refine T_aload_n (pc := 2869) C dL_law_2869 rfl 3 rfl ?_
  refine T_lh (pc := 2870) zk.1 hZ C [.ref (adc 0), vi (scv xs (i + 1)), .ref (adm 11)] [] (fun o h9 hw => ct_L_ticketTo zk zy zs zE hst N σ (scv xs (i + 1)) (scv_rng _ _) hw o h9) kq_83 cm_L_ticketTo rfl rfl (Nat.le_of_ble_eq_true rfl) ⟨⟨by decide, by decide⟩, by show _ + 1 ≤ room_1.cells; have := rmC1; omega, by show _ + 6 ≤ room_1.slots; have := rmS1; omega⟩ (a' := a + 1) (b' := bb + 6) ⟨rfl, rfl⟩ dL_law_2870 (fun v2 hv2 => ?_)
  refine T_istore (pc := 2873) (L' := [(6, vi v2.2), (0, .ref sc), (1, .ref (adc 0)), (2, .ref (adm 0)), (3, .ref (adm 11)), (4, .ref (adm 12)), (5, vi i)]) C dL_law_2873 (Nat.le_of_ble_eq_true rfl) rfl ?_
  refine T_aload_n (pc := 2875) C dL_law_2875 rfl 3 rfl ?_
  refine T_aload_n (pc := 2876) C dL_law_2876 rfl 1 rfl ?_
  refine T_iload (pc := 2877) C dL_law_2877 6 rfl ?_
  refine T_iconst (pc := 2879) C dL_law_2879 ?_
  refine T_iadd (pc := 2880) C dL_law_2880 ?_
  refine T_sld sx (pc := 2881) C hsl g1 dL_law_2881 ?_
  refine T_lmi (pc := 2882) C [vi (scv xs (i + 1))] [] (fun o h9 hw => ct_X13_ticketTo N v2.1.2.1 (scv xs (i + 1)) (scv_rng _ _) hw o h9) kq_84 cm_X13_ticketTo rcm rfl rfl (Nat.le_of_ble_eq_true rfl) ⟨⟨by decide, by decide⟩, by show _ + 0 ≤ room_1.cells; have := rmC1; omega, by show _ + 0 ≤ room_1.slots; have := rmS1; omega⟩ (a' := a + 1) (b' := bb + 6) ⟨rfl, rfl⟩ dL_law_2882 (fun v3 hv3 => ?_)
  refine T_istore (pc := 2885) (L' := [(7, vi v3.2), (6, vi v2.2), (0, .ref sc), (1, .ref (adc 0)), (2, .ref (adm 0)), (3, .ref (adm 11)), (4, .ref (adm 12)), (5, vi i)]) C dL_law_2885 (Nat.le_of_ble_eq_true rfl) rfl ?_
  refine T_aload_n (pc := 2887) C dL_law_2887 rfl 4 rfl ?_
  refine T_lmp (pc := 2888) C [] [] (fun o h9 hw => ct_X13_thrown (v2.1.1, v3.1, v2.1.2.2).2.1 hw o h9) kq_2 cm_X13_thrown rcm rfl rfl (Nat.le_of_ble_eq_true rfl) ⟨⟨by decide, by decide⟩, by show _ + 0 ≤ room_1.cells; have := rmC1; omega, by show _ + 0 ≤ room_1.slots; have := rmS1; omega⟩ (a' := a + 1) (b' := bb + 6) ⟨rfl, rfl⟩ dL_law_2888 (fun v4 hv4 => ?_)
  refine T_iload (pc := 2891) C dL_law_2891 1 rfl ?_
  refine T_icmp_eq (pc := 2893) C 2898 dL_law_2893 rfl hv4.1 hv2 (fun c5 => ?_) (fun c5 => ?_)
  · refine T_iload (pc := 2898) C dL_law_2898 1 rfl ?_
    refine T_if_ne (pc := 2900) C 2915 dL_law_2900 rfl hv2 (fun c6 => ?_) (fun c6 => ?_)
    · refine T_goto (pc := 2915) C 3728 dL_law_2915 rfl ?_
      refine T_iinc (pc := 3728) (L' := [(5, vi (i + 5)), (7, vi v3.2), (6, vi v2.2), (0, .ref sc), (1, .ref (adc 0)), (2, .ref (adm 0)), (3, .ref (adm 11)), (4, .ref (adm 12))]) C dL_law_3728 (Nat.le_of_ble_eq_true rfl) 7 rfl rfl ?_
      refine T_goto (pc := 3731) C 28 dL_law_3731 rfl ?_
      refine T_sub (L' := [(0, .ref sc), (1, .ref (adc 0)), (2, .ref (adm 0)), (3, .ref (adm 11)), (4, .ref (adm 12)), (5, vi (i + 5))]) [3, 4, 5, 6, 7, 0] rfl ?_
      exact ih (v2.1.1, v3.1, v2.1.2.2) (i + 5) _ _ (by unfold rng; omega) (stp (c := 1) ha (by decide)) (stp (c := 6) hb (by decide))
    · refine T_aload_n (pc := 2903) C dL_law_2903 rfl 5 rfl ?_
      refine T_iconst (pc := 2904) C dL_law_2904 ?_
      refine T_lald (pc := 2905) C dL_law_2905 (fun o7 => ?_)
      refine T_iload (pc := 2906) C dL_law_2906 0 rfl ?_
      refine T_i2l (pc := 2908) C hv3.1 dL_law_2908 ?_
      refine T_lcmp (pc := 2909) C o7 hv3.1 dL_law_2909 ?_
      refine T_if_eq (pc := 2910) C 2915 dL_law_2910 rfl (lcm_rng _ _) (fun c8 => ?_) (fun c8 => ?_)
      · refine T_goto (pc := 2915) C 3728 dL_law_2915 rfl ?_
        refine T_iinc (pc := 3728) (L' := [(5, vi (i + 5)), (7, vi v3.2), (6, vi v2.2), (0, .ref sc), (1, .ref (adc 0)), (2, .ref (adm 0)), (3, .ref (adm 11)), (4, .ref (adm 12))]) C dL_law_3728 (Nat.le_of_ble_eq_true rfl) 7 rfl rfl ?_
        refine T_goto (pc := 3731) C 28 dL_law_3731 rfl ?_
        refine T_sub (L' := [(0, .ref sc), (1, .ref (adc 0)), (2, .ref (adm 0)), (3, .ref (adm 11)), (4, .ref (adm 12)), (5, vi (i + 5))]) [3, 4, 5, 6, 7, 0] rfl ?_
        exact ih (v2.1.1, v3.1, v2.1.2.2) (i + 5) _ _ (by unfold rng; omega) (stp (c := 1) ha (by decide)) (stp (c := 6) hb (by decide))
      · refine T_iconst (pc := 2913) C dL_law_2913 ?_
        exact T_none
  · refine T_iconst (pc := 2896) C dL_law_2896 ?_
    exact T_none
noncomputable def f_law_42 (sq : Nat) (xs : Nat → Int32) (N : Nat) (rec : SL → Int → Option Unit) (σ : SL) (i : Int) : Option Unit :=
  if 0 ≤ (i + 1) ∧ (i + 1) < (sq : Int) then (f_L_ticketPrice N σ (scv xs (i + 1))).bind fun v2 => (f_X13_ticketPrice N v2.1.2.1 (scv xs (i + 1))).bind fun v3 => (f_X13_thrown (v2.1.1, v3.1, v2.1.2.2).2.1).bind fun v4 => (if v4 = v2.2 then (if v2.2 = 0 then (if (lcm ((v2.1.1, v3.1, v2.1.2.2).2.2.1) v3.2) = 0 then rec (v2.1.1, v3.1, v2.1.2.2) (i + 5) else none) else rec (v2.1.1, v3.1, v2.1.2.2) (i + 5)) else none) else none
theorem lc_42 {X : vjX} {A : Nat → Prop} {Q : State → Prop} {cy : Nat → ClassId} {adc adm : Nat → Nat} {E : Nat → Nat → Nat} {G : va_G} {Z : vZ} {sa : Nat → Nat} {sc sq : Nat} {xs : Nat → Int32} (zk : Zk Z E) (zy : Zy Z E sa) (zs : ZS Z E) (zE : ZE Z) (zp : ZP Z) (zd : ZD Z E) (hst : X.2.1.stackTraces = false) (hZ : Zx Z X (YL cy adc adm E G A 9 Q)) (sx : SX X A sc sq xs) (hL : sq ≤ 2560) (C : Cx X (YL cy adc adm E G A 9 Q) cL_law RL (some .boolean) room_1 (tyL cy)) (N : Nat) (n : Nat) (rec : SL → Int → Option Unit) (ih : ∀ (σ : SL) (i : Int) (a bb : Nat), rng i → a + n * 1000 ≤ 600000 → bb + n * 13000 ≤ 7200000 → T X (YL cy adc adm E G A 9 Q) (fun (_ : Unit) => ∀ (q : SL) (a bb : Nat), a ≤ 600000 → bb ≤ 7200000 → J X (YL cy adc adm E G A 9 Q) a bb 3734 [] [] q) a bb 28 [(0, .ref sc), (1, .ref (adc 0)), (2, .ref (adm 0)), (3, .ref (adm 11)), (4, .ref (adm 12)), (5, vi i)] [] σ (rec σ i)) (σ : SL) (i : Int) (a bb : Nat) (hi : rng i) (hi0 : 0 ≤ i ∧ i < (sq : Int)) (ha : a + (n + 1) * 1000 ≤ 600000) (hb : bb + (n + 1) * 13000 ≤ 7200000) : T X (YL cy adc adm E G A 9 Q) (fun (_ : Unit) => ∀ (q : SL) (a bb : Nat), a ≤ 600000 → bb ≤ 7200000 → J X (YL cy adc adm E G A 9 Q) a bb 3734 [] [] q) a bb 2918 [(0, .ref sc), (1, .ref (adc 0)), (2, .ref (adm 0)), (3, .ref (adm 11)), (4, .ref (adm 12)), (5, vi i)] [] σ (f_law_42 sq xs N rec σ i) := by
  have hsl : sq ≤ 2147483647 := by omega
  have hsq : rng (sq : Int) := by unfold rng; omega
  unfold f_law_42
  refine T_aload_n (pc := 2918) C dL_law_2918 rfl 1 rfl ?_
  refine T_aload_n (pc := 2919) C dL_law_2919 rfl 0 rfl ?_
  refine T_iload (pc := 2920) C dL_law_2920 5 rfl ?_
  refine T_iconst (pc := 2922) C dL_law_2922 ?_
  refine T_iadd (pc := 2923) C dL_law_2923 ?_
  refine T_guard (fun g1 => ?_)
  refine T_sld sx (pc := 2924) C hsl g1 dL_law_2924 ?_
  refine T_aload_n (pc := 2925) C dL_law_2925 rfl 3 rfl ?_
  refine T_lh (pc := 2926) zk.1 hZ C [.ref (adc 0), vi (scv xs (i + 1)), .ref (adm 11)] [] (fun o h9 hw => ct_L_ticketPrice zk zy zs zE hst N σ (scv xs (i + 1)) (scv_rng _ _) hw o h9) kq_85 cm_L_ticketPrice rfl rfl (Nat.le_of_ble_eq_true rfl) ⟨⟨by decide, by decide⟩, by show _ + 1 ≤ room_1.cells; have := rmC1; omega, by show _ + 6 ≤ room_1.slots; have := rmS1; omega⟩ (a' := a + 1) (b' := bb + 6) ⟨rfl, rfl⟩ dL_law_2926 (fun v2 hv2 => ?_)
  refine T_istore (pc := 2929) (L' := [(6, vi v2.2), (0, .ref sc), (1, .ref (adc 0)), (2, .ref (adm 0)), (3, .ref (adm 11)), (4, .ref (adm 12)), (5, vi i)]) C dL_law_2929 (Nat.le_of_ble_eq_true rfl) rfl ?_
  refine T_aload_n (pc := 2931) C dL_law_2931 rfl 3 rfl ?_
  refine T_aload_n (pc := 2932) C dL_law_2932 rfl 1 rfl ?_
  refine T_iload (pc := 2933) C dL_law_2933 6 rfl ?_
  refine T_iconst (pc := 2935) C dL_law_2935 ?_
  refine T_iadd (pc := 2936) C dL_law_2936 ?_
  refine T_sld sx (pc := 2937) C hsl g1 dL_law_2937 ?_
  refine T_lmi (pc := 2938) C [vi (scv xs (i + 1))] [] (fun o h9 hw => ct_X13_ticketPrice N v2.1.2.1 (scv xs (i + 1)) (scv_rng _ _) hw o h9) kq_86 cm_X13_ticketPrice rcm rfl rfl (Nat.le_of_ble_eq_true rfl) ⟨⟨by decide, by decide⟩, by show _ + 0 ≤ room_1.cells; have := rmC1; omega, by show _ + 0 ≤ room_1.slots; have := rmS1; omega⟩ (a' := a + 1) (b' := bb + 6) ⟨rfl, rfl⟩ dL_law_2938 (fun v3 hv3 => ?_)
  refine T_istore (pc := 2941) (L' := [(7, vi v3.2), (6, vi v2.2), (0, .ref sc), (1, .ref (adc 0)), (2, .ref (adm 0)), (3, .ref (adm 11)), (4, .ref (adm 12)), (5, vi i)]) C dL_law_2941 (Nat.le_of_ble_eq_true rfl) rfl ?_
  refine T_aload_n (pc := 2943) C dL_law_2943 rfl 4 rfl ?_
  refine T_lmp (pc := 2944) C [] [] (fun o h9 hw => ct_X13_thrown (v2.1.1, v3.1, v2.1.2.2).2.1 hw o h9) kq_2 cm_X13_thrown rcm rfl rfl (Nat.le_of_ble_eq_true rfl) ⟨⟨by decide, by decide⟩, by show _ + 0 ≤ room_1.cells; have := rmC1; omega, by show _ + 0 ≤ room_1.slots; have := rmS1; omega⟩ (a' := a + 1) (b' := bb + 6) ⟨rfl, rfl⟩ dL_law_2944 (fun v4 hv4 => ?_)
  refine T_iload (pc := 2947) C dL_law_2947 1 rfl ?_
  refine T_icmp_eq (pc := 2949) C 2954 dL_law_2949 rfl hv4.1 hv2 (fun c5 => ?_) (fun c5 => ?_)
  · refine T_iload (pc := 2954) C dL_law_2954 1 rfl ?_
    refine T_if_ne (pc := 2956) C 2971 dL_law_2956 rfl hv2 (fun c6 => ?_) (fun c6 => ?_)
    · refine T_goto (pc := 2971) C 3728 dL_law_2971 rfl ?_
      refine T_iinc (pc := 3728) (L' := [(5, vi (i + 5)), (7, vi v3.2), (6, vi v2.2), (0, .ref sc), (1, .ref (adc 0)), (2, .ref (adm 0)), (3, .ref (adm 11)), (4, .ref (adm 12))]) C dL_law_3728 (Nat.le_of_ble_eq_true rfl) 7 rfl rfl ?_
      refine T_goto (pc := 3731) C 28 dL_law_3731 rfl ?_
      refine T_sub (L' := [(0, .ref sc), (1, .ref (adc 0)), (2, .ref (adm 0)), (3, .ref (adm 11)), (4, .ref (adm 12)), (5, vi (i + 5))]) [3, 4, 5, 6, 7, 0] rfl ?_
      exact ih (v2.1.1, v3.1, v2.1.2.2) (i + 5) _ _ (by unfold rng; omega) (stp (c := 1) ha (by decide)) (stp (c := 6) hb (by decide))
    · refine T_aload_n (pc := 2959) C dL_law_2959 rfl 5 rfl ?_
      refine T_iconst (pc := 2960) C dL_law_2960 ?_
      refine T_lald (pc := 2961) C dL_law_2961 (fun o7 => ?_)
      refine T_iload (pc := 2962) C dL_law_2962 0 rfl ?_
      refine T_i2l (pc := 2964) C hv3.1 dL_law_2964 ?_
      refine T_lcmp (pc := 2965) C o7 hv3.1 dL_law_2965 ?_
      refine T_if_eq (pc := 2966) C 2971 dL_law_2966 rfl (lcm_rng _ _) (fun c8 => ?_) (fun c8 => ?_)
      · refine T_goto (pc := 2971) C 3728 dL_law_2971 rfl ?_
        refine T_iinc (pc := 3728) (L' := [(5, vi (i + 5)), (7, vi v3.2), (6, vi v2.2), (0, .ref sc), (1, .ref (adc 0)), (2, .ref (adm 0)), (3, .ref (adm 11)), (4, .ref (adm 12))]) C dL_law_3728 (Nat.le_of_ble_eq_true rfl) 7 rfl rfl ?_
        refine T_goto (pc := 3731) C 28 dL_law_3731 rfl ?_
        refine T_sub (L' := [(0, .ref sc), (1, .ref (adc 0)), (2, .ref (adm 0)), (3, .ref (adm 11)), (4, .ref (adm 12)), (5, vi (i + 5))]) [3, 4, 5, 6, 7, 0] rfl ?_
        exact ih (v2.1.1, v3.1, v2.1.2.2) (i + 5) _ _ (by unfold rng; omega) (stp (c := 1) ha (by decide)) (stp (c := 6) hb (by decide))
      · refine T_iconst (pc := 2969) C dL_law_2969 ?_
        exact T_none
  · refine T_iconst (pc := 2952) C dL_law_2952 ?_
    exact T_none
noncomputable def f_law_43 (sq : Nat) (xs : Nat → Int32) (N : Nat) (rec : SL → Int → Option Unit) (σ : SL) (i : Int) : Option Unit :=
  (f_X12_income σ.1).bind fun v1 => (f_X13_income σ.2.1).bind fun v2 => (if v1 = v2.2 then rec (σ.1, v2.1, σ.2.2) (i + 5) else none)
theorem lc_43 {X : vjX} {A : Nat → Prop} {Q : State → Prop} {cy : Nat → ClassId} {adc adm : Nat → Nat} {E : Nat → Nat → Nat} {G : va_G} {Z : vZ} {sa : Nat → Nat} {sc sq : Nat} {xs : Nat → Int32} (zk : Zk Z E) (zy : Zy Z E sa) (zs : ZS Z E) (zE : ZE Z) (zp : ZP Z) (zd : ZD Z E) (hst : X.2.1.stackTraces = false) (hZ : Zx Z X (YL cy adc adm E G A 9 Q)) (sx : SX X A sc sq xs) (hL : sq ≤ 2560) (C : Cx X (YL cy adc adm E G A 9 Q) cL_law RL (some .boolean) room_1 (tyL cy)) (N : Nat) (n : Nat) (rec : SL → Int → Option Unit) (ih : ∀ (σ : SL) (i : Int) (a bb : Nat), rng i → a + n * 1000 ≤ 600000 → bb + n * 13000 ≤ 7200000 → T X (YL cy adc adm E G A 9 Q) (fun (_ : Unit) => ∀ (q : SL) (a bb : Nat), a ≤ 600000 → bb ≤ 7200000 → J X (YL cy adc adm E G A 9 Q) a bb 3734 [] [] q) a bb 28 [(0, .ref sc), (1, .ref (adc 0)), (2, .ref (adm 0)), (3, .ref (adm 11)), (4, .ref (adm 12)), (5, vi i)] [] σ (rec σ i)) (σ : SL) (i : Int) (a bb : Nat) (hi : rng i) (hi0 : 0 ≤ i ∧ i < (sq : Int)) (ha : a + (n + 1) * 1000 ≤ 600000) (hb : bb + (n + 1) * 13000 ≤ 7200000) : T X (YL cy adc adm E G A 9 Q) (fun (_ : Unit) => ∀ (q : SL) (a bb : Nat), a ≤ 600000 → bb ≤ 7200000 → J X (YL cy adc adm E G A 9 Q) a bb 3734 [] [] q) a bb 2974 [(0, .ref sc), (1, .ref (adc 0)), (2, .ref (adm 0)), (3, .ref (adm 11)), (4, .ref (adm 12)), (5, vi i)] [] σ (f_law_43 sq xs N rec σ i) := by
  have hsl : sq ≤ 2147483647 := by omega
  have hsq : rng (sq : Int) := by unfold rng; omega
  unfold f_law_43
  refine T_aload_n (pc := 2974) C dL_law_2974 rfl 1 rfl ?_
  refine T_lzp (pc := 2975) zk.1 hZ C [] [] (fun o h9 hw => ct_X12_income zk zy σ.1 hw o h9) kq_87 cm_X12_income (rcc (rfl : kd 0 = 12) (by decide) (fun _ => rfl) rfl) rfl rfl (Nat.le_of_ble_eq_true rfl) ⟨⟨by decide, by decide⟩, by show _ + 0 ≤ room_1.cells; have := rmC1; omega, by show _ + 0 ≤ room_1.slots; have := rmS1; omega⟩ (a' := a + 0) (b' := bb + 0) ⟨rfl, rfl⟩ dL_law_2975 (fun v1 hv1 => ?_)
  refine T_aload_n (pc := 2978) C dL_law_2978 rfl 2 rfl ?_
  refine T_lmi (pc := 2979) C [] [vi v1] (fun o h9 hw => ct_X13_income σ.2.1 hw o h9) kq_88 cm_X13_income rcm rfl rfl (Nat.le_of_ble_eq_true rfl) ⟨⟨by decide, by decide⟩, by show _ + 0 ≤ room_1.cells; have := rmC1; omega, by show _ + 0 ≤ room_1.slots; have := rmS1; omega⟩ (a' := a + 0) (b' := bb + 0) ⟨rfl, rfl⟩ dL_law_2979 (fun v2 hv2 => ?_)
  refine T_icmp_eq (pc := 2982) C 3728 dL_law_2982 rfl hv1.1 hv2.1 (fun c3 => ?_) (fun c3 => ?_)
  · refine T_iinc (pc := 3728) (L' := [(5, vi (i + 5)), (0, .ref sc), (1, .ref (adc 0)), (2, .ref (adm 0)), (3, .ref (adm 11)), (4, .ref (adm 12))]) C dL_law_3728 (Nat.le_of_ble_eq_true rfl) 5 rfl rfl ?_
    refine T_goto (pc := 3731) C 28 dL_law_3731 rfl ?_
    refine T_sub (L' := [(0, .ref sc), (1, .ref (adc 0)), (2, .ref (adm 0)), (3, .ref (adm 11)), (4, .ref (adm 12)), (5, vi (i + 5))]) [1, 2, 3, 4, 5, 0] rfl ?_
    exact ih (σ.1, v2.1, σ.2.2) (i + 5) _ _ (by unfold rng; omega) (stp (c := 0) ha (by decide)) (stp (c := 0) hb (by decide))
  · refine T_iconst (pc := 2985) C dL_law_2985 ?_
    exact T_none
noncomputable def f_law_44 (sq : Nat) (xs : Nat → Int32) (N : Nat) (rec : SL → Int → Option Unit) (σ : SL) (i : Int) : Option Unit :=
  (f_X12_refundedCoins σ.1).bind fun v1 => (f_X13_refundedCoins σ.2.1).bind fun v2 => (if v1 = v2.2 then rec (σ.1, v2.1, σ.2.2) (i + 5) else none)
theorem lc_44 {X : vjX} {A : Nat → Prop} {Q : State → Prop} {cy : Nat → ClassId} {adc adm : Nat → Nat} {E : Nat → Nat → Nat} {G : va_G} {Z : vZ} {sa : Nat → Nat} {sc sq : Nat} {xs : Nat → Int32} (zk : Zk Z E) (zy : Zy Z E sa) (zs : ZS Z E) (zE : ZE Z) (zp : ZP Z) (zd : ZD Z E) (hst : X.2.1.stackTraces = false) (hZ : Zx Z X (YL cy adc adm E G A 9 Q)) (sx : SX X A sc sq xs) (hL : sq ≤ 2560) (C : Cx X (YL cy adc adm E G A 9 Q) cL_law RL (some .boolean) room_1 (tyL cy)) (N : Nat) (n : Nat) (rec : SL → Int → Option Unit) (ih : ∀ (σ : SL) (i : Int) (a bb : Nat), rng i → a + n * 1000 ≤ 600000 → bb + n * 13000 ≤ 7200000 → T X (YL cy adc adm E G A 9 Q) (fun (_ : Unit) => ∀ (q : SL) (a bb : Nat), a ≤ 600000 → bb ≤ 7200000 → J X (YL cy adc adm E G A 9 Q) a bb 3734 [] [] q) a bb 28 [(0, .ref sc), (1, .ref (adc 0)), (2, .ref (adm 0)), (3, .ref (adm 11)), (4, .ref (adm 12)), (5, vi i)] [] σ (rec σ i)) (σ : SL) (i : Int) (a bb : Nat) (hi : rng i) (hi0 : 0 ≤ i ∧ i < (sq : Int)) (ha : a + (n + 1) * 1000 ≤ 600000) (hb : bb + (n + 1) * 13000 ≤ 7200000) : T X (YL cy adc adm E G A 9 Q) (fun (_ : Unit) => ∀ (q : SL) (a bb : Nat), a ≤ 600000 → bb ≤ 7200000 → J X (YL cy adc adm E G A 9 Q) a bb 3734 [] [] q) a bb 2987 [(0, .ref sc), (1, .ref (adc 0)), (2, .ref (adm 0)), (3, .ref (adm 11)), (4, .ref (adm 12)), (5, vi i)] [] σ (f_law_44 sq xs N rec σ i) := by
  have hsl : sq ≤ 2147483647 := by omega
  have hsq : rng (sq : Int) := by unfold rng; omega
  unfold f_law_44
  refine T_aload_n (pc := 2987) C dL_law_2987 rfl 1 rfl ?_
  refine T_lzp (pc := 2988) zk.1 hZ C [] [] (fun o h9 hw => ct_X12_refundedCoins zk zy σ.1 hw o h9) kq_89 cm_X12_refundedCoins (rcc (rfl : kd 0 = 12) (by decide) (fun _ => rfl) rfl) rfl rfl (Nat.le_of_ble_eq_true rfl) ⟨⟨by decide, by decide⟩, by show _ + 0 ≤ room_1.cells; have := rmC1; omega, by show _ + 0 ≤ room_1.slots; have := rmS1; omega⟩ (a' := a + 0) (b' := bb + 0) ⟨rfl, rfl⟩ dL_law_2988 (fun v1 hv1 => ?_)
  refine T_aload_n (pc := 2991) C dL_law_2991 rfl 2 rfl ?_
  refine T_lmi (pc := 2992) C [] [vi v1] (fun o h9 hw => ct_X13_refundedCoins σ.2.1 hw o h9) kq_90 cm_X13_refundedCoins rcm rfl rfl (Nat.le_of_ble_eq_true rfl) ⟨⟨by decide, by decide⟩, by show _ + 0 ≤ room_1.cells; have := rmC1; omega, by show _ + 0 ≤ room_1.slots; have := rmS1; omega⟩ (a' := a + 0) (b' := bb + 0) ⟨rfl, rfl⟩ dL_law_2992 (fun v2 hv2 => ?_)
  refine T_icmp_eq (pc := 2995) C 3728 dL_law_2995 rfl hv1.1 hv2.1 (fun c3 => ?_) (fun c3 => ?_)
  · refine T_iinc (pc := 3728) (L' := [(5, vi (i + 5)), (0, .ref sc), (1, .ref (adc 0)), (2, .ref (adm 0)), (3, .ref (adm 11)), (4, .ref (adm 12))]) C dL_law_3728 (Nat.le_of_ble_eq_true rfl) 5 rfl rfl ?_
    refine T_goto (pc := 3731) C 28 dL_law_3731 rfl ?_
    refine T_sub (L' := [(0, .ref sc), (1, .ref (adc 0)), (2, .ref (adm 0)), (3, .ref (adm 11)), (4, .ref (adm 12)), (5, vi (i + 5))]) [1, 2, 3, 4, 5, 0] rfl ?_
    exact ih (σ.1, v2.1, σ.2.2) (i + 5) _ _ (by unfold rng; omega) (stp (c := 0) ha (by decide)) (stp (c := 0) hb (by decide))
  · refine T_iconst (pc := 2998) C dL_law_2998 ?_
    exact T_none
noncomputable def f_law_45 (sq : Nat) (xs : Nat → Int32) (N : Nat) (rec : SL → Int → Option Unit) (σ : SL) (i : Int) : Option Unit :=
  (f_X12_usedTickets σ.1).bind fun v1 => (f_X13_usedTickets σ.2.1).bind fun v2 => (if v1 = v2.2 then rec (σ.1, v2.1, σ.2.2) (i + 5) else none)
theorem lc_45 {X : vjX} {A : Nat → Prop} {Q : State → Prop} {cy : Nat → ClassId} {adc adm : Nat → Nat} {E : Nat → Nat → Nat} {G : va_G} {Z : vZ} {sa : Nat → Nat} {sc sq : Nat} {xs : Nat → Int32} (zk : Zk Z E) (zy : Zy Z E sa) (zs : ZS Z E) (zE : ZE Z) (zp : ZP Z) (zd : ZD Z E) (hst : X.2.1.stackTraces = false) (hZ : Zx Z X (YL cy adc adm E G A 9 Q)) (sx : SX X A sc sq xs) (hL : sq ≤ 2560) (C : Cx X (YL cy adc adm E G A 9 Q) cL_law RL (some .boolean) room_1 (tyL cy)) (N : Nat) (n : Nat) (rec : SL → Int → Option Unit) (ih : ∀ (σ : SL) (i : Int) (a bb : Nat), rng i → a + n * 1000 ≤ 600000 → bb + n * 13000 ≤ 7200000 → T X (YL cy adc adm E G A 9 Q) (fun (_ : Unit) => ∀ (q : SL) (a bb : Nat), a ≤ 600000 → bb ≤ 7200000 → J X (YL cy adc adm E G A 9 Q) a bb 3734 [] [] q) a bb 28 [(0, .ref sc), (1, .ref (adc 0)), (2, .ref (adm 0)), (3, .ref (adm 11)), (4, .ref (adm 12)), (5, vi i)] [] σ (rec σ i)) (σ : SL) (i : Int) (a bb : Nat) (hi : rng i) (hi0 : 0 ≤ i ∧ i < (sq : Int)) (ha : a + (n + 1) * 1000 ≤ 600000) (hb : bb + (n + 1) * 13000 ≤ 7200000) : T X (YL cy adc adm E G A 9 Q) (fun (_ : Unit) => ∀ (q : SL) (a bb : Nat), a ≤ 600000 → bb ≤ 7200000 → J X (YL cy adc adm E G A 9 Q) a bb 3734 [] [] q) a bb 3000 [(0, .ref sc), (1, .ref (adc 0)), (2, .ref (adm 0)), (3, .ref (adm 11)), (4, .ref (adm 12)), (5, vi i)] [] σ (f_law_45 sq xs N rec σ i) := by
  have hsl : sq ≤ 2147483647 := by omega
  have hsq : rng (sq : Int) := by unfold rng; omega
  unfold f_law_45
  refine T_aload_n (pc := 3000) C dL_law_3000 rfl 1 rfl ?_
  refine T_lzp (pc := 3001) zk.1 hZ C [] [] (fun o h9 hw => ct_X12_usedTickets zk zy σ.1 hw o h9) kq_91 cm_X12_usedTickets (rcc (rfl : kd 0 = 12) (by decide) (fun _ => rfl) rfl) rfl rfl (Nat.le_of_ble_eq_true rfl) ⟨⟨by decide, by decide⟩, by show _ + 0 ≤ room_1.cells; have := rmC1; omega, by show _ + 0 ≤ room_1.slots; have := rmS1; omega⟩ (a' := a + 0) (b' := bb + 0) ⟨rfl, rfl⟩ dL_law_3001 (fun v1 hv1 => ?_)
  refine T_aload_n (pc := 3004) C dL_law_3004 rfl 2 rfl ?_
  refine T_lmi (pc := 3005) C [] [vi v1] (fun o h9 hw => ct_X13_usedTickets σ.2.1 hw o h9) kq_92 cm_X13_usedTickets rcm rfl rfl (Nat.le_of_ble_eq_true rfl) ⟨⟨by decide, by decide⟩, by show _ + 0 ≤ room_1.cells; have := rmC1; omega, by show _ + 0 ≤ room_1.slots; have := rmS1; omega⟩ (a' := a + 0) (b' := bb + 0) ⟨rfl, rfl⟩ dL_law_3005 (fun v2 hv2 => ?_)
  refine T_icmp_eq (pc := 3008) C 3728 dL_law_3008 rfl hv1.1 hv2.1 (fun c3 => ?_) (fun c3 => ?_)
  · refine T_iinc (pc := 3728) (L' := [(5, vi (i + 5)), (0, .ref sc), (1, .ref (adc 0)), (2, .ref (adm 0)), (3, .ref (adm 11)), (4, .ref (adm 12))]) C dL_law_3728 (Nat.le_of_ble_eq_true rfl) 5 rfl rfl ?_
    refine T_goto (pc := 3731) C 28 dL_law_3731 rfl ?_
    refine T_sub (L' := [(0, .ref sc), (1, .ref (adc 0)), (2, .ref (adm 0)), (3, .ref (adm 11)), (4, .ref (adm 12)), (5, vi (i + 5))]) [1, 2, 3, 4, 5, 0] rfl ?_
    exact ih (σ.1, v2.1, σ.2.2) (i + 5) _ _ (by unfold rng; omega) (stp (c := 0) ha (by decide)) (stp (c := 0) hb (by decide))
  · refine T_iconst (pc := 3011) C dL_law_3011 ?_
    exact T_none
noncomputable def f_law_46 (sq : Nat) (xs : Nat → Int32) (N : Nat) (rec : SL → Int → Option Unit) (σ : SL) (i : Int) : Option Unit :=
  if 0 ≤ (i + 1) ∧ (i + 1) < (sq : Int) then (f_L_lineByTickets N σ (scv xs (i + 1))).bind fun v2 => (f_X13_lineByTickets N v2.1.2.1 (scv xs (i + 1))).bind fun v3 => (f_X13_thrown (v2.1.1, v3.1, v2.1.2.2).2.1).bind fun v4 => (if v4 = v2.2 then (if v2.2 = 0 then (if (lcm ((v2.1.1, v3.1, v2.1.2.2).2.2.1) v3.2) = 0 then rec (v2.1.1, v3.1, v2.1.2.2) (i + 5) else none) else rec (v2.1.1, v3.1, v2.1.2.2) (i + 5)) else none) else none
theorem lc_46 {X : vjX} {A : Nat → Prop} {Q : State → Prop} {cy : Nat → ClassId} {adc adm : Nat → Nat} {E : Nat → Nat → Nat} {G : va_G} {Z : vZ} {sa : Nat → Nat} {sc sq : Nat} {xs : Nat → Int32} (zk : Zk Z E) (zy : Zy Z E sa) (zs : ZS Z E) (zE : ZE Z) (zp : ZP Z) (zd : ZD Z E) (hst : X.2.1.stackTraces = false) (hZ : Zx Z X (YL cy adc adm E G A 9 Q)) (sx : SX X A sc sq xs) (hL : sq ≤ 2560) (C : Cx X (YL cy adc adm E G A 9 Q) cL_law RL (some .boolean) room_1 (tyL cy)) (N : Nat) (n : Nat) (rec : SL → Int → Option Unit) (ih : ∀ (σ : SL) (i : Int) (a bb : Nat), rng i → a + n * 1000 ≤ 600000 → bb + n * 13000 ≤ 7200000 → T X (YL cy adc adm E G A 9 Q) (fun (_ : Unit) => ∀ (q : SL) (a bb : Nat), a ≤ 600000 → bb ≤ 7200000 → J X (YL cy adc adm E G A 9 Q) a bb 3734 [] [] q) a bb 28 [(0, .ref sc), (1, .ref (adc 0)), (2, .ref (adm 0)), (3, .ref (adm 11)), (4, .ref (adm 12)), (5, vi i)] [] σ (rec σ i)) (σ : SL) (i : Int) (a bb : Nat) (hi : rng i) (hi0 : 0 ≤ i ∧ i < (sq : Int)) (ha : a + (n + 1) * 1000 ≤ 600000) (hb : bb + (n + 1) * 13000 ≤ 7200000) : T X (YL cy adc adm E G A 9 Q) (fun (_ : Unit) => ∀ (q : SL) (a bb : Nat), a ≤ 600000 → bb ≤ 7200000 → J X (YL cy adc adm E G A 9 Q) a bb 3734 [] [] q) a bb 3013 [(0, .ref sc), (1, .ref (adc 0)), (2, .ref (adm 0)), (3, .ref (adm 11)), (4, .ref (adm 12)), (5, vi i)] [] σ (f_law_46 sq xs N rec σ i) := by
  have hsl : sq ≤ 2147483647 := by omega
  have hsq : rng (sq : Int) := by unfold rng; omega
  unfold f_law_46
  refine T_aload_n (pc := 3013) C dL_law_3013 rfl 1 rfl ?_
  refine T_aload_n (pc := 3014) C dL_law_3014 rfl 0 rfl ?_
  refine T_iload (pc := 3015) C dL_law_3015 5 rfl ?_
  refine T_iconst (pc := 3017) C dL_law_3017 ?_
  refine T_iadd (pc := 3018) C dL_law_3018 ?_
  refine T_guard (fun g1 => ?_)
  refine T_sld sx (pc := 3019) C hsl g1 dL_law_3019 ?_
  refine T_aload_n (pc := 3020) C dL_law_3020 rfl 3 rfl ?_
  refine T_lh (pc := 3021) zk.1 hZ C [.ref (adc 0), vi (scv xs (i + 1)), .ref (adm 11)] [] (fun o h9 hw => ct_L_lineByTickets zk zy zs zE hst N σ (scv xs (i + 1)) (scv_rng _ _) hw o h9) kq_93 cm_L_lineByTickets rfl rfl (Nat.le_of_ble_eq_true rfl) ⟨⟨by decide, by decide⟩, by show _ + 1 ≤ room_1.cells; have := rmC1; omega, by show _ + 6 ≤ room_1.slots; have := rmS1; omega⟩ (a' := a + 1) (b' := bb + 6) ⟨rfl, rfl⟩ dL_law_3021 (fun v2 hv2 => ?_)
  refine T_istore (pc := 3024) (L' := [(6, vi v2.2), (0, .ref sc), (1, .ref (adc 0)), (2, .ref (adm 0)), (3, .ref (adm 11)), (4, .ref (adm 12)), (5, vi i)]) C dL_law_3024 (Nat.le_of_ble_eq_true rfl) rfl ?_
  refine T_aload_n (pc := 3026) C dL_law_3026 rfl 3 rfl ?_
  refine T_aload_n (pc := 3027) C dL_law_3027 rfl 1 rfl ?_
  refine T_iload (pc := 3028) C dL_law_3028 6 rfl ?_
  refine T_iconst (pc := 3030) C dL_law_3030 ?_
  refine T_iadd (pc := 3031) C dL_law_3031 ?_
  refine T_sld sx (pc := 3032) C hsl g1 dL_law_3032 ?_
  refine T_lmi (pc := 3033) C [vi (scv xs (i + 1))] [] (fun o h9 hw => ct_X13_lineByTickets N v2.1.2.1 (scv xs (i + 1)) (scv_rng _ _) hw o h9) kq_94 cm_X13_lineByTickets rcm rfl rfl (Nat.le_of_ble_eq_true rfl) ⟨⟨by decide, by decide⟩, by show _ + 0 ≤ room_1.cells; have := rmC1; omega, by show _ + 0 ≤ room_1.slots; have := rmS1; omega⟩ (a' := a + 1) (b' := bb + 6) ⟨rfl, rfl⟩ dL_law_3033 (fun v3 hv3 => ?_)
  refine T_istore (pc := 3036) (L' := [(7, vi v3.2), (6, vi v2.2), (0, .ref sc), (1, .ref (adc 0)), (2, .ref (adm 0)), (3, .ref (adm 11)), (4, .ref (adm 12)), (5, vi i)]) C dL_law_3036 (Nat.le_of_ble_eq_true rfl) rfl ?_
  refine T_aload_n (pc := 3038) C dL_law_3038 rfl 4 rfl ?_
  refine T_lmp (pc := 3039) C [] [] (fun o h9 hw => ct_X13_thrown (v2.1.1, v3.1, v2.1.2.2).2.1 hw o h9) kq_2 cm_X13_thrown rcm rfl rfl (Nat.le_of_ble_eq_true rfl) ⟨⟨by decide, by decide⟩, by show _ + 0 ≤ room_1.cells; have := rmC1; omega, by show _ + 0 ≤ room_1.slots; have := rmS1; omega⟩ (a' := a + 1) (b' := bb + 6) ⟨rfl, rfl⟩ dL_law_3039 (fun v4 hv4 => ?_)
  refine T_iload (pc := 3042) C dL_law_3042 1 rfl ?_
  refine T_icmp_eq (pc := 3044) C 3049 dL_law_3044 rfl hv4.1 hv2 (fun c5 => ?_) (fun c5 => ?_)
  · refine T_iload (pc := 3049) C dL_law_3049 1 rfl ?_
    refine T_if_ne (pc := 3051) C 3066 dL_law_3051 rfl hv2 (fun c6 => ?_) (fun c6 => ?_)
    · refine T_goto (pc := 3066) C 3728 dL_law_3066 rfl ?_
      refine T_iinc (pc := 3728) (L' := [(5, vi (i + 5)), (7, vi v3.2), (6, vi v2.2), (0, .ref sc), (1, .ref (adc 0)), (2, .ref (adm 0)), (3, .ref (adm 11)), (4, .ref (adm 12))]) C dL_law_3728 (Nat.le_of_ble_eq_true rfl) 7 rfl rfl ?_
      refine T_goto (pc := 3731) C 28 dL_law_3731 rfl ?_
      refine T_sub (L' := [(0, .ref sc), (1, .ref (adc 0)), (2, .ref (adm 0)), (3, .ref (adm 11)), (4, .ref (adm 12)), (5, vi (i + 5))]) [3, 4, 5, 6, 7, 0] rfl ?_
      exact ih (v2.1.1, v3.1, v2.1.2.2) (i + 5) _ _ (by unfold rng; omega) (stp (c := 1) ha (by decide)) (stp (c := 6) hb (by decide))
    · refine T_aload_n (pc := 3054) C dL_law_3054 rfl 5 rfl ?_
      refine T_iconst (pc := 3055) C dL_law_3055 ?_
      refine T_lald (pc := 3056) C dL_law_3056 (fun o7 => ?_)
      refine T_iload (pc := 3057) C dL_law_3057 0 rfl ?_
      refine T_i2l (pc := 3059) C hv3.1 dL_law_3059 ?_
      refine T_lcmp (pc := 3060) C o7 hv3.1 dL_law_3060 ?_
      refine T_if_eq (pc := 3061) C 3066 dL_law_3061 rfl (lcm_rng _ _) (fun c8 => ?_) (fun c8 => ?_)
      · refine T_goto (pc := 3066) C 3728 dL_law_3066 rfl ?_
        refine T_iinc (pc := 3728) (L' := [(5, vi (i + 5)), (7, vi v3.2), (6, vi v2.2), (0, .ref sc), (1, .ref (adc 0)), (2, .ref (adm 0)), (3, .ref (adm 11)), (4, .ref (adm 12))]) C dL_law_3728 (Nat.le_of_ble_eq_true rfl) 7 rfl rfl ?_
        refine T_goto (pc := 3731) C 28 dL_law_3731 rfl ?_
        refine T_sub (L' := [(0, .ref sc), (1, .ref (adc 0)), (2, .ref (adm 0)), (3, .ref (adm 11)), (4, .ref (adm 12)), (5, vi (i + 5))]) [3, 4, 5, 6, 7, 0] rfl ?_
        exact ih (v2.1.1, v3.1, v2.1.2.2) (i + 5) _ _ (by unfold rng; omega) (stp (c := 1) ha (by decide)) (stp (c := 6) hb (by decide))
      · refine T_iconst (pc := 3064) C dL_law_3064 ?_
        exact T_none
  · refine T_iconst (pc := 3047) C dL_law_3047 ?_
    exact T_none
noncomputable def f_law_47 (sq : Nat) (xs : Nat → Int32) (N : Nat) (rec : SL → Int → Option Unit) (σ : SL) (i : Int) : Option Unit :=
  if 0 ≤ (i + 1) ∧ (i + 1) < (sq : Int) then (f_L_stopByLines N σ (scv xs (i + 1))).bind fun v2 => (f_X13_stopByLines N v2.1.2.1 (scv xs (i + 1))).bind fun v3 => (f_X13_thrown (v2.1.1, v3.1, v2.1.2.2).2.1).bind fun v4 => (if v4 = v2.2 then (if v2.2 = 0 then (if (lcm ((v2.1.1, v3.1, v2.1.2.2).2.2.1) v3.2) = 0 then rec (v2.1.1, v3.1, v2.1.2.2) (i + 5) else none) else rec (v2.1.1, v3.1, v2.1.2.2) (i + 5)) else none) else none
theorem lc_47 {X : vjX} {A : Nat → Prop} {Q : State → Prop} {cy : Nat → ClassId} {adc adm : Nat → Nat} {E : Nat → Nat → Nat} {G : va_G} {Z : vZ} {sa : Nat → Nat} {sc sq : Nat} {xs : Nat → Int32} (zk : Zk Z E) (zy : Zy Z E sa) (zs : ZS Z E) (zE : ZE Z) (zp : ZP Z) (zd : ZD Z E) (hst : X.2.1.stackTraces = false) (hZ : Zx Z X (YL cy adc adm E G A 9 Q)) (sx : SX X A sc sq xs) (hL : sq ≤ 2560) (C : Cx X (YL cy adc adm E G A 9 Q) cL_law RL (some .boolean) room_1 (tyL cy)) (N : Nat) (n : Nat) (rec : SL → Int → Option Unit) (ih : ∀ (σ : SL) (i : Int) (a bb : Nat), rng i → a + n * 1000 ≤ 600000 → bb + n * 13000 ≤ 7200000 → T X (YL cy adc adm E G A 9 Q) (fun (_ : Unit) => ∀ (q : SL) (a bb : Nat), a ≤ 600000 → bb ≤ 7200000 → J X (YL cy adc adm E G A 9 Q) a bb 3734 [] [] q) a bb 28 [(0, .ref sc), (1, .ref (adc 0)), (2, .ref (adm 0)), (3, .ref (adm 11)), (4, .ref (adm 12)), (5, vi i)] [] σ (rec σ i)) (σ : SL) (i : Int) (a bb : Nat) (hi : rng i) (hi0 : 0 ≤ i ∧ i < (sq : Int)) (ha : a + (n + 1) * 1000 ≤ 600000) (hb : bb + (n + 1) * 13000 ≤ 7200000) : T X (YL cy adc adm E G A 9 Q) (fun (_ : Unit) => ∀ (q : SL) (a bb : Nat), a ≤ 600000 → bb ≤ 7200000 → J X (YL cy adc adm E G A 9 Q) a bb 3734 [] [] q) a bb 3069 [(0, .ref sc), (1, .ref (adc 0)), (2, .ref (adm 0)), (3, .ref (adm 11)), (4, .ref (adm 12)), (5, vi i)] [] σ (f_law_47 sq xs N rec σ i) := by
  have hsl : sq ≤ 2147483647 := by omega
  have hsq : rng (sq : Int) := by unfold rng; omega
  unfold f_law_47
  refine T_aload_n (pc := 3069) C dL_law_3069 rfl 1 rfl ?_
  refine T_aload_n (pc := 3070) C dL_law_3070 rfl 0 rfl ?_
  refine T_iload (pc := 3071) C dL_law_3071 5 rfl ?_
  refine T_iconst (pc := 3073) C dL_law_3073 ?_
  refine T_iadd (pc := 3074) C dL_law_3074 ?_
  refine T_guard (fun g1 => ?_)
  refine T_sld sx (pc := 3075) C hsl g1 dL_law_3075 ?_
  refine T_aload_n (pc := 3076) C dL_law_3076 rfl 3 rfl ?_
  refine T_lh (pc := 3077) zk.1 hZ C [.ref (adc 0), vi (scv xs (i + 1)), .ref (adm 11)] [] (fun o h9 hw => ct_L_stopByLines zk zy zs zE hst N σ (scv xs (i + 1)) (scv_rng _ _) hw o h9) kq_95 cm_L_stopByLines rfl rfl (Nat.le_of_ble_eq_true rfl) ⟨⟨by decide, by decide⟩, by show _ + 1 ≤ room_1.cells; have := rmC1; omega, by show _ + 6 ≤ room_1.slots; have := rmS1; omega⟩ (a' := a + 1) (b' := bb + 6) ⟨rfl, rfl⟩ dL_law_3077 (fun v2 hv2 => ?_)
  refine T_istore (pc := 3080) (L' := [(6, vi v2.2), (0, .ref sc), (1, .ref (adc 0)), (2, .ref (adm 0)), (3, .ref (adm 11)), (4, .ref (adm 12)), (5, vi i)]) C dL_law_3080 (Nat.le_of_ble_eq_true rfl) rfl ?_
  refine T_aload_n (pc := 3082) C dL_law_3082 rfl 3 rfl ?_
  refine T_aload_n (pc := 3083) C dL_law_3083 rfl 1 rfl ?_
  refine T_iload (pc := 3084) C dL_law_3084 6 rfl ?_
  refine T_iconst (pc := 3086) C dL_law_3086 ?_
  refine T_iadd (pc := 3087) C dL_law_3087 ?_
  refine T_sld sx (pc := 3088) C hsl g1 dL_law_3088 ?_
  refine T_lmi (pc := 3089) C [vi (scv xs (i + 1))] [] (fun o h9 hw => ct_X13_stopByLines N v2.1.2.1 (scv xs (i + 1)) (scv_rng _ _) hw o h9) kq_96 cm_X13_stopByLines rcm rfl rfl (Nat.le_of_ble_eq_true rfl) ⟨⟨by decide, by decide⟩, by show _ + 0 ≤ room_1.cells; have := rmC1; omega, by show _ + 0 ≤ room_1.slots; have := rmS1; omega⟩ (a' := a + 1) (b' := bb + 6) ⟨rfl, rfl⟩ dL_law_3089 (fun v3 hv3 => ?_)
  refine T_istore (pc := 3092) (L' := [(7, vi v3.2), (6, vi v2.2), (0, .ref sc), (1, .ref (adc 0)), (2, .ref (adm 0)), (3, .ref (adm 11)), (4, .ref (adm 12)), (5, vi i)]) C dL_law_3092 (Nat.le_of_ble_eq_true rfl) rfl ?_
  refine T_aload_n (pc := 3094) C dL_law_3094 rfl 4 rfl ?_
  refine T_lmp (pc := 3095) C [] [] (fun o h9 hw => ct_X13_thrown (v2.1.1, v3.1, v2.1.2.2).2.1 hw o h9) kq_2 cm_X13_thrown rcm rfl rfl (Nat.le_of_ble_eq_true rfl) ⟨⟨by decide, by decide⟩, by show _ + 0 ≤ room_1.cells; have := rmC1; omega, by show _ + 0 ≤ room_1.slots; have := rmS1; omega⟩ (a' := a + 1) (b' := bb + 6) ⟨rfl, rfl⟩ dL_law_3095 (fun v4 hv4 => ?_)
  refine T_iload (pc := 3098) C dL_law_3098 1 rfl ?_
  refine T_icmp_eq (pc := 3100) C 3105 dL_law_3100 rfl hv4.1 hv2 (fun c5 => ?_) (fun c5 => ?_)
  · refine T_iload (pc := 3105) C dL_law_3105 1 rfl ?_
    refine T_if_ne (pc := 3107) C 3122 dL_law_3107 rfl hv2 (fun c6 => ?_) (fun c6 => ?_)
    · refine T_goto (pc := 3122) C 3728 dL_law_3122 rfl ?_
      refine T_iinc (pc := 3728) (L' := [(5, vi (i + 5)), (7, vi v3.2), (6, vi v2.2), (0, .ref sc), (1, .ref (adc 0)), (2, .ref (adm 0)), (3, .ref (adm 11)), (4, .ref (adm 12))]) C dL_law_3728 (Nat.le_of_ble_eq_true rfl) 7 rfl rfl ?_
      refine T_goto (pc := 3731) C 28 dL_law_3731 rfl ?_
      refine T_sub (L' := [(0, .ref sc), (1, .ref (adc 0)), (2, .ref (adm 0)), (3, .ref (adm 11)), (4, .ref (adm 12)), (5, vi (i + 5))]) [3, 4, 5, 6, 7, 0] rfl ?_
      exact ih (v2.1.1, v3.1, v2.1.2.2) (i + 5) _ _ (by unfold rng; omega) (stp (c := 1) ha (by decide)) (stp (c := 6) hb (by decide))
    · refine T_aload_n (pc := 3110) C dL_law_3110 rfl 5 rfl ?_
      refine T_iconst (pc := 3111) C dL_law_3111 ?_
      refine T_lald (pc := 3112) C dL_law_3112 (fun o7 => ?_)
      refine T_iload (pc := 3113) C dL_law_3113 0 rfl ?_
      refine T_i2l (pc := 3115) C hv3.1 dL_law_3115 ?_
      refine T_lcmp (pc := 3116) C o7 hv3.1 dL_law_3116 ?_
      refine T_if_eq (pc := 3117) C 3122 dL_law_3117 rfl (lcm_rng _ _) (fun c8 => ?_) (fun c8 => ?_)
      · refine T_goto (pc := 3122) C 3728 dL_law_3122 rfl ?_
        refine T_iinc (pc := 3728) (L' := [(5, vi (i + 5)), (7, vi v3.2), (6, vi v2.2), (0, .ref sc), (1, .ref (adc 0)), (2, .ref (adm 0)), (3, .ref (adm 11)), (4, .ref (adm 12))]) C dL_law_3728 (Nat.le_of_ble_eq_true rfl) 7 rfl rfl ?_
        refine T_goto (pc := 3731) C 28 dL_law_3731 rfl ?_
        refine T_sub (L' := [(0, .ref sc), (1, .ref (adc 0)), (2, .ref (adm 0)), (3, .ref (adm 11)), (4, .ref (adm 12)), (5, vi (i + 5))]) [3, 4, 5, 6, 7, 0] rfl ?_
        exact ih (v2.1.1, v3.1, v2.1.2.2) (i + 5) _ _ (by unfold rng; omega) (stp (c := 1) ha (by decide)) (stp (c := 6) hb (by decide))
      · refine T_iconst (pc := 3120) C dL_law_3120 ?_
        exact T_none
  · refine T_iconst (pc := 3103) C dL_law_3103 ?_
    exact T_none
