/-! the law's loop, cases 48 and on -/
noncomputable def f_law_48 (sq : Nat) (xs : Nat → Int32) (N : Nat) (rec : SL → Int → Option Unit) (σ : SL) (i : Int) : Option Unit :=
  (f_L_meanPrice N σ ).bind fun v1 => (f_X13_meanPrice N v1.1.2.1).bind fun v2 => (f_X13_thrown (v1.1.1, v2.1, v1.1.2.2).2.1).bind fun v3 => (if v3 = v1.2 then (if v1.2 = 0 then (if (dcm ((v1.1.1, v2.1, v1.1.2.2).2.2.2) v2.2 .l) = 0 then rec (v1.1.1, v2.1, v1.1.2.2) (i + 5) else (if (dcm ((v1.1.1, v2.1, v1.1.2.2).2.2.2) ((v1.1.1, v2.1, v1.1.2.2).2.2.2) .l) = 0 then none else (if (dcm v2.2 v2.2 .l) = 0 then none else rec (v1.1.1, v2.1, v1.1.2.2) (i + 5)))) else rec (v1.1.1, v2.1, v1.1.2.2) (i + 5)) else none)
theorem lc_48 {X : vjX} {A : Nat → Prop} {Q : State → Prop} {cy : Nat → ClassId} {adc adm : Nat → Nat} {E : Nat → Nat → Nat} {G : va_G} {Z : vZ} {sa : Nat → Nat} {sc sq : Nat} {xs : Nat → Int32} (zk : Zk Z E) (zy : Zy Z E sa) (zs : ZS Z E) (zE : ZE Z) (zp : ZP Z) (zd : ZD Z E) (hst : X.2.1.stackTraces = false) (hZ : Zx Z X (YL cy adc adm E G A 9 Q)) (sx : SX X A sc sq xs) (hL : sq ≤ 2560) (C : Cx X (YL cy adc adm E G A 9 Q) cL_law RL (some .boolean) room_1 (tyL cy)) (N : Nat) (n : Nat) (rec : SL → Int → Option Unit) (ih : ∀ (σ : SL) (i : Int) (a bb : Nat), rng i → a + n * 1000 ≤ 600000 → bb + n * 13000 ≤ 7200000 → T X (YL cy adc adm E G A 9 Q) (fun (_ : Unit) => ∀ (q : SL) (a bb : Nat), a ≤ 600000 → bb ≤ 7200000 → J X (YL cy adc adm E G A 9 Q) a bb 3734 [] [] q) a bb 28 [(0, .ref sc), (1, .ref (adc 0)), (2, .ref (adm 0)), (3, .ref (adm 11)), (4, .ref (adm 12)), (5, vi i)] [] σ (rec σ i)) (σ : SL) (i : Int) (a bb : Nat) (hi : rng i) (hi0 : 0 ≤ i ∧ i < (sq : Int)) (ha : a + (n + 1) * 1000 ≤ 600000) (hb : bb + (n + 1) * 13000 ≤ 7200000) : T X (YL cy adc adm E G A 9 Q) (fun (_ : Unit) => ∀ (q : SL) (a bb : Nat), a ≤ 600000 → bb ≤ 7200000 → J X (YL cy adc adm E G A 9 Q) a bb 3734 [] [] q) a bb 3125 [(0, .ref sc), (1, .ref (adc 0)), (2, .ref (adm 0)), (3, .ref (adm 11)), (4, .ref (adm 12)), (5, vi i)] [] σ (f_law_48 sq xs N rec σ i) := by
  have hsl : sq ≤ 2147483647 := by omega
  have hsq : rng (sq : Int) := by unfold rng; omega
  unfold f_law_48
  refine T_aload_n (pc := 3125) C dL_law_3125 rfl 1 rfl ?_
  refine T_aload (pc := 3126) C dL_law_3126 4 rfl ?_
  refine T_lh (pc := 3128) zk.1 hZ C [.ref (adc 0), .ref (adm 12)] [] (fun o h9 hw => ct_L_meanPrice zk zy zs zE hst N σ  hw o h9) kq_97 cm_L_meanPrice rfl rfl (Nat.le_of_ble_eq_true rfl) ⟨⟨by decide, by decide⟩, by show _ + 1 ≤ room_1.cells; have := rmC1; omega, by show _ + 6 ≤ room_1.slots; have := rmS1; omega⟩ (a' := a + 1) (b' := bb + 6) ⟨rfl, rfl⟩ dL_law_3128 (fun v1 hv1 => ?_)
  refine T_istore (pc := 3131) (L' := [(6, vi v1.2), (0, .ref sc), (1, .ref (adc 0)), (2, .ref (adm 0)), (3, .ref (adm 11)), (4, .ref (adm 12)), (5, vi i)]) C dL_law_3131 (Nat.le_of_ble_eq_true rfl) rfl ?_
  refine T_aload_n (pc := 3133) C dL_law_3133 rfl 3 rfl ?_
  refine T_lmd (pc := 3134) C [] [] (fun o h9 hw => ct_X13_meanPrice N v1.1.2.1 hw o h9) kq_98 cm_X13_meanPrice rcm rfl rfl (Nat.le_of_ble_eq_true rfl) ⟨⟨by decide, by decide⟩, by show _ + 0 ≤ room_1.cells; have := rmC1; omega, by show _ + 0 ≤ room_1.slots; have := rmS1; omega⟩ (a' := a + 1) (b' := bb + 6) ⟨rfl, rfl⟩ dL_law_3134 (fun v2 => ?_)
  refine T_dstore (pc := 3137) (L' := [(7, .double v2.2), (6, vi v1.2), (0, .ref sc), (1, .ref (adc 0)), (2, .ref (adm 0)), (3, .ref (adm 11)), (4, .ref (adm 12)), (5, vi i)]) C dL_law_3137 (by decide) rfl ?_
  refine T_aload_n (pc := 3139) C dL_law_3139 rfl 4 rfl ?_
  refine T_lmp (pc := 3140) C [] [] (fun o h9 hw => ct_X13_thrown (v1.1.1, v2.1, v1.1.2.2).2.1 hw o h9) kq_2 cm_X13_thrown rcm rfl rfl (Nat.le_of_ble_eq_true rfl) ⟨⟨by decide, by decide⟩, by show _ + 0 ≤ room_1.cells; have := rmC1; omega, by show _ + 0 ≤ room_1.slots; have := rmS1; omega⟩ (a' := a + 1) (b' := bb + 6) ⟨rfl, rfl⟩ dL_law_3140 (fun v3 hv3 => ?_)
  refine T_iload (pc := 3143) C dL_law_3143 1 rfl ?_
  refine T_icmp_eq (pc := 3145) C 3150 dL_law_3145 rfl hv3.1 hv1 (fun c4 => ?_) (fun c4 => ?_)
  · refine T_iload (pc := 3150) C dL_law_3150 1 rfl ?_
    refine T_if_ne (pc := 3152) C 3187 dL_law_3152 rfl hv1 (fun c5 => ?_) (fun c5 => ?_)
    · refine T_goto (pc := 3187) C 3728 dL_law_3187 rfl ?_
      refine T_iinc (pc := 3728) (L' := [(5, vi (i + 5)), (7, .double v2.2), (6, vi v1.2), (0, .ref sc), (1, .ref (adc 0)), (2, .ref (adm 0)), (3, .ref (adm 11)), (4, .ref (adm 12))]) C dL_law_3728 (Nat.le_of_ble_eq_true rfl) 7 rfl rfl ?_
      refine T_goto (pc := 3731) C 28 dL_law_3731 rfl ?_
      refine T_sub (L' := [(0, .ref sc), (1, .ref (adc 0)), (2, .ref (adm 0)), (3, .ref (adm 11)), (4, .ref (adm 12)), (5, vi (i + 5))]) [3, 4, 5, 6, 7, 0] rfl ?_
      exact ih (v1.1.1, v2.1, v1.1.2.2) (i + 5) _ _ (by unfold rng; omega) (stp (c := 1) ha (by decide)) (stp (c := 6) hb (by decide))
    · refine T_aload (pc := 3155) C dL_law_3155 6 rfl ?_
      refine T_iconst (pc := 3157) C dL_law_3157 ?_
      refine T_dald (pc := 3158) C dL_law_3158 ?_
      refine T_dload (pc := 3159) C dL_law_3159 0 rfl ?_
      refine T_dcmp (pc := 3161) C dL_law_3161 ?_
      refine T_if_eq (pc := 3162) C 3187 dL_law_3162 rfl (dcm_rng _ _ _) (fun c6 => ?_) (fun c6 => ?_)
      · refine T_goto (pc := 3187) C 3728 dL_law_3187 rfl ?_
        refine T_iinc (pc := 3728) (L' := [(5, vi (i + 5)), (7, .double v2.2), (6, vi v1.2), (0, .ref sc), (1, .ref (adc 0)), (2, .ref (adm 0)), (3, .ref (adm 11)), (4, .ref (adm 12))]) C dL_law_3728 (Nat.le_of_ble_eq_true rfl) 7 rfl rfl ?_
        refine T_goto (pc := 3731) C 28 dL_law_3731 rfl ?_
        refine T_sub (L' := [(0, .ref sc), (1, .ref (adc 0)), (2, .ref (adm 0)), (3, .ref (adm 11)), (4, .ref (adm 12)), (5, vi (i + 5))]) [3, 4, 5, 6, 7, 0] rfl ?_
        exact ih (v1.1.1, v2.1, v1.1.2.2) (i + 5) _ _ (by unfold rng; omega) (stp (c := 1) ha (by decide)) (stp (c := 6) hb (by decide))
      · refine T_aload (pc := 3165) C dL_law_3165 6 rfl ?_
        refine T_iconst (pc := 3167) C dL_law_3167 ?_
        refine T_dald (pc := 3168) C dL_law_3168 ?_
        refine T_aload (pc := 3169) C dL_law_3169 6 rfl ?_
        refine T_iconst (pc := 3171) C dL_law_3171 ?_
        refine T_dald (pc := 3172) C dL_law_3172 ?_
        refine T_dcmp (pc := 3173) C dL_law_3173 ?_
        refine T_if_eq (pc := 3174) C 3185 dL_law_3174 rfl (dcm_rng _ _ _) (fun c7 => ?_) (fun c7 => ?_)
        · refine T_iconst (pc := 3185) C dL_law_3185 ?_
          exact T_none
        · refine T_dload (pc := 3177) C dL_law_3177 0 rfl ?_
          refine T_dload (pc := 3179) C dL_law_3179 0 rfl ?_
          refine T_dcmp (pc := 3181) C dL_law_3181 ?_
          refine T_if_ne (pc := 3182) C 3187 dL_law_3182 rfl (dcm_rng _ _ _) (fun c8 => ?_) (fun c8 => ?_)
          · refine T_goto (pc := 3187) C 3728 dL_law_3187 rfl ?_
            refine T_iinc (pc := 3728) (L' := [(5, vi (i + 5)), (7, .double v2.2), (6, vi v1.2), (0, .ref sc), (1, .ref (adc 0)), (2, .ref (adm 0)), (3, .ref (adm 11)), (4, .ref (adm 12))]) C dL_law_3728 (Nat.le_of_ble_eq_true rfl) 7 rfl rfl ?_
            refine T_goto (pc := 3731) C 28 dL_law_3731 rfl ?_
            refine T_sub (L' := [(0, .ref sc), (1, .ref (adc 0)), (2, .ref (adm 0)), (3, .ref (adm 11)), (4, .ref (adm 12)), (5, vi (i + 5))]) [3, 4, 5, 6, 7, 0] rfl ?_
            exact ih (v1.1.1, v2.1, v1.1.2.2) (i + 5) _ _ (by unfold rng; omega) (stp (c := 1) ha (by decide)) (stp (c := 6) hb (by decide))
          · refine T_iconst (pc := 3185) C dL_law_3185 ?_
            exact T_none
  · refine T_iconst (pc := 3148) C dL_law_3148 ?_
    exact T_none
noncomputable def f_law_49 (sq : Nat) (xs : Nat → Int32) (N : Nat) (rec : SL → Int → Option Unit) (σ : SL) (i : Int) : Option Unit :=
  (f_L_closedShare N σ ).bind fun v1 => (f_X13_closedShare N v1.1.2.1).bind fun v2 => (f_X13_thrown (v1.1.1, v2.1, v1.1.2.2).2.1).bind fun v3 => (if v3 = v1.2 then (if v1.2 = 0 then if FP.f2d v2.2 &&& 0x7fffffffffffffff ≤ 0x7ff0000000000000 then (if (dcm ((v1.1.1, v2.1, v1.1.2.2).2.2.2) (FP.f2d v2.2) .l) = 0 then rec (v1.1.1, v2.1, v1.1.2.2) (i + 5) else (if (dcm ((v1.1.1, v2.1, v1.1.2.2).2.2.2) ((v1.1.1, v2.1, v1.1.2.2).2.2.2) .l) = 0 then none else (if (fcm v2.2 v2.2 .l) = 0 then none else rec (v1.1.1, v2.1, v1.1.2.2) (i + 5)))) else none else rec (v1.1.1, v2.1, v1.1.2.2) (i + 5)) else none)
theorem lc_49 {X : vjX} {A : Nat → Prop} {Q : State → Prop} {cy : Nat → ClassId} {adc adm : Nat → Nat} {E : Nat → Nat → Nat} {G : va_G} {Z : vZ} {sa : Nat → Nat} {sc sq : Nat} {xs : Nat → Int32} (zk : Zk Z E) (zy : Zy Z E sa) (zs : ZS Z E) (zE : ZE Z) (zp : ZP Z) (zd : ZD Z E) (hst : X.2.1.stackTraces = false) (hZ : Zx Z X (YL cy adc adm E G A 9 Q)) (sx : SX X A sc sq xs) (hL : sq ≤ 2560) (C : Cx X (YL cy adc adm E G A 9 Q) cL_law RL (some .boolean) room_1 (tyL cy)) (N : Nat) (n : Nat) (rec : SL → Int → Option Unit) (ih : ∀ (σ : SL) (i : Int) (a bb : Nat), rng i → a + n * 1000 ≤ 600000 → bb + n * 13000 ≤ 7200000 → T X (YL cy adc adm E G A 9 Q) (fun (_ : Unit) => ∀ (q : SL) (a bb : Nat), a ≤ 600000 → bb ≤ 7200000 → J X (YL cy adc adm E G A 9 Q) a bb 3734 [] [] q) a bb 28 [(0, .ref sc), (1, .ref (adc 0)), (2, .ref (adm 0)), (3, .ref (adm 11)), (4, .ref (adm 12)), (5, vi i)] [] σ (rec σ i)) (σ : SL) (i : Int) (a bb : Nat) (hi : rng i) (hi0 : 0 ≤ i ∧ i < (sq : Int)) (ha : a + (n + 1) * 1000 ≤ 600000) (hb : bb + (n + 1) * 13000 ≤ 7200000) : T X (YL cy adc adm E G A 9 Q) (fun (_ : Unit) => ∀ (q : SL) (a bb : Nat), a ≤ 600000 → bb ≤ 7200000 → J X (YL cy adc adm E G A 9 Q) a bb 3734 [] [] q) a bb 3190 [(0, .ref sc), (1, .ref (adc 0)), (2, .ref (adm 0)), (3, .ref (adm 11)), (4, .ref (adm 12)), (5, vi i)] [] σ (f_law_49 sq xs N rec σ i) := by
  have hsl : sq ≤ 2147483647 := by omega
  have hsq : rng (sq : Int) := by unfold rng; omega
  unfold f_law_49
  refine T_aload_n (pc := 3190) C dL_law_3190 rfl 1 rfl ?_
  refine T_aload (pc := 3191) C dL_law_3191 4 rfl ?_
  refine T_lh (pc := 3193) zk.1 hZ C [.ref (adc 0), .ref (adm 12)] [] (fun o h9 hw => ct_L_closedShare zk zy zs zE hst N σ  hw o h9) kq_99 cm_L_closedShare rfl rfl (Nat.le_of_ble_eq_true rfl) ⟨⟨by decide, by decide⟩, by show _ + 1 ≤ room_1.cells; have := rmC1; omega, by show _ + 6 ≤ room_1.slots; have := rmS1; omega⟩ (a' := a + 1) (b' := bb + 6) ⟨rfl, rfl⟩ dL_law_3193 (fun v1 hv1 => ?_)
  refine T_istore (pc := 3196) (L' := [(6, vi v1.2), (0, .ref sc), (1, .ref (adc 0)), (2, .ref (adm 0)), (3, .ref (adm 11)), (4, .ref (adm 12)), (5, vi i)]) C dL_law_3196 (Nat.le_of_ble_eq_true rfl) rfl ?_
  refine T_aload_n (pc := 3198) C dL_law_3198 rfl 3 rfl ?_
  refine T_lmf (pc := 3199) C [] [] (fun o h9 hw => ct_X13_closedShare N v1.1.2.1 hw o h9) kq_100 cm_X13_closedShare rcm rfl rfl (Nat.le_of_ble_eq_true rfl) ⟨⟨by decide, by decide⟩, by show _ + 0 ≤ room_1.cells; have := rmC1; omega, by show _ + 0 ≤ room_1.slots; have := rmS1; omega⟩ (a' := a + 1) (b' := bb + 6) ⟨rfl, rfl⟩ dL_law_3199 (fun v2 => ?_)
  refine T_fstore (pc := 3202) (L' := [(7, .float v2.2), (6, vi v1.2), (0, .ref sc), (1, .ref (adc 0)), (2, .ref (adm 0)), (3, .ref (adm 11)), (4, .ref (adm 12)), (5, vi i)]) C dL_law_3202 (by decide) rfl ?_
  refine T_aload_n (pc := 3204) C dL_law_3204 rfl 4 rfl ?_
  refine T_lmp (pc := 3205) C [] [] (fun o h9 hw => ct_X13_thrown (v1.1.1, v2.1, v1.1.2.2).2.1 hw o h9) kq_2 cm_X13_thrown rcm rfl rfl (Nat.le_of_ble_eq_true rfl) ⟨⟨by decide, by decide⟩, by show _ + 0 ≤ room_1.cells; have := rmC1; omega, by show _ + 0 ≤ room_1.slots; have := rmS1; omega⟩ (a' := a + 1) (b' := bb + 6) ⟨rfl, rfl⟩ dL_law_3205 (fun v3 hv3 => ?_)
  refine T_iload (pc := 3208) C dL_law_3208 1 rfl ?_
  refine T_icmp_eq (pc := 3210) C 3215 dL_law_3210 rfl hv3.1 hv1 (fun c4 => ?_) (fun c4 => ?_)
  · refine T_iload (pc := 3215) C dL_law_3215 1 rfl ?_
    refine T_if_ne (pc := 3217) C 3253 dL_law_3217 rfl hv1 (fun c5 => ?_) (fun c5 => ?_)
    · refine T_goto (pc := 3253) C 3728 dL_law_3253 rfl ?_
      refine T_iinc (pc := 3728) (L' := [(5, vi (i + 5)), (7, .float v2.2), (6, vi v1.2), (0, .ref sc), (1, .ref (adc 0)), (2, .ref (adm 0)), (3, .ref (adm 11)), (4, .ref (adm 12))]) C dL_law_3728 (Nat.le_of_ble_eq_true rfl) 7 rfl rfl ?_
      refine T_goto (pc := 3731) C 28 dL_law_3731 rfl ?_
      refine T_sub (L' := [(0, .ref sc), (1, .ref (adc 0)), (2, .ref (adm 0)), (3, .ref (adm 11)), (4, .ref (adm 12)), (5, vi (i + 5))]) [3, 4, 5, 6, 7, 0] rfl ?_
      exact ih (v1.1.1, v2.1, v1.1.2.2) (i + 5) _ _ (by unfold rng; omega) (stp (c := 1) ha (by decide)) (stp (c := 6) hb (by decide))
    · refine T_aload (pc := 3220) C dL_law_3220 6 rfl ?_
      refine T_iconst (pc := 3222) C dL_law_3222 ?_
      refine T_dald (pc := 3223) C dL_law_3223 ?_
      refine T_fload (pc := 3224) C dL_law_3224 0 rfl ?_
      refine T_guard (fun g6 => ?_)
      refine T_f2d (pc := 3226) C g6 dL_law_3226 ?_
      refine T_dcmp (pc := 3227) C dL_law_3227 ?_
      refine T_if_eq (pc := 3228) C 3253 dL_law_3228 rfl (dcm_rng _ _ _) (fun c7 => ?_) (fun c7 => ?_)
      · refine T_goto (pc := 3253) C 3728 dL_law_3253 rfl ?_
        refine T_iinc (pc := 3728) (L' := [(5, vi (i + 5)), (7, .float v2.2), (6, vi v1.2), (0, .ref sc), (1, .ref (adc 0)), (2, .ref (adm 0)), (3, .ref (adm 11)), (4, .ref (adm 12))]) C dL_law_3728 (Nat.le_of_ble_eq_true rfl) 7 rfl rfl ?_
        refine T_goto (pc := 3731) C 28 dL_law_3731 rfl ?_
        refine T_sub (L' := [(0, .ref sc), (1, .ref (adc 0)), (2, .ref (adm 0)), (3, .ref (adm 11)), (4, .ref (adm 12)), (5, vi (i + 5))]) [3, 4, 5, 6, 7, 0] rfl ?_
        exact ih (v1.1.1, v2.1, v1.1.2.2) (i + 5) _ _ (by unfold rng; omega) (stp (c := 1) ha (by decide)) (stp (c := 6) hb (by decide))
      · refine T_aload (pc := 3231) C dL_law_3231 6 rfl ?_
        refine T_iconst (pc := 3233) C dL_law_3233 ?_
        refine T_dald (pc := 3234) C dL_law_3234 ?_
        refine T_aload (pc := 3235) C dL_law_3235 6 rfl ?_
        refine T_iconst (pc := 3237) C dL_law_3237 ?_
        refine T_dald (pc := 3238) C dL_law_3238 ?_
        refine T_dcmp (pc := 3239) C dL_law_3239 ?_
        refine T_if_eq (pc := 3240) C 3251 dL_law_3240 rfl (dcm_rng _ _ _) (fun c8 => ?_) (fun c8 => ?_)
        · refine T_iconst (pc := 3251) C dL_law_3251 ?_
          exact T_none
        · refine T_fload (pc := 3243) C dL_law_3243 0 rfl ?_
          refine T_fload (pc := 3245) C dL_law_3245 0 rfl ?_
          refine T_fcmp (pc := 3247) C dL_law_3247 ?_
          refine T_if_ne (pc := 3248) C 3253 dL_law_3248 rfl (fcm_rng _ _ _) (fun c9 => ?_) (fun c9 => ?_)
          · refine T_goto (pc := 3253) C 3728 dL_law_3253 rfl ?_
            refine T_iinc (pc := 3728) (L' := [(5, vi (i + 5)), (7, .float v2.2), (6, vi v1.2), (0, .ref sc), (1, .ref (adc 0)), (2, .ref (adm 0)), (3, .ref (adm 11)), (4, .ref (adm 12))]) C dL_law_3728 (Nat.le_of_ble_eq_true rfl) 7 rfl rfl ?_
            refine T_goto (pc := 3731) C 28 dL_law_3731 rfl ?_
            refine T_sub (L' := [(0, .ref sc), (1, .ref (adc 0)), (2, .ref (adm 0)), (3, .ref (adm 11)), (4, .ref (adm 12)), (5, vi (i + 5))]) [3, 4, 5, 6, 7, 0] rfl ?_
            exact ih (v1.1.1, v2.1, v1.1.2.2) (i + 5) _ _ (by unfold rng; omega) (stp (c := 1) ha (by decide)) (stp (c := 6) hb (by decide))
          · refine T_iconst (pc := 3251) C dL_law_3251 ?_
            exact T_none
  · refine T_iconst (pc := 3213) C dL_law_3213 ?_
    exact T_none
noncomputable def f_law_50 (sq : Nat) (xs : Nat → Int32) (N : Nat) (rec : SL → Int → Option Unit) (σ : SL) (i : Int) : Option Unit :=
  (f_X12_isConsistent N σ.1).bind fun v1 => (f_X13_isConsistent (v1.1, σ.2).2.1).bind fun v2 => (if v1.2 = v2.2 then rec ((v1.1, σ.2).1, v2.1, (v1.1, σ.2).2.2) (i + 5) else none)
theorem lc_50 {X : vjX} {A : Nat → Prop} {Q : State → Prop} {cy : Nat → ClassId} {adc adm : Nat → Nat} {E : Nat → Nat → Nat} {G : va_G} {Z : vZ} {sa : Nat → Nat} {sc sq : Nat} {xs : Nat → Int32} (zk : Zk Z E) (zy : Zy Z E sa) (zs : ZS Z E) (zE : ZE Z) (zp : ZP Z) (zd : ZD Z E) (hst : X.2.1.stackTraces = false) (hZ : Zx Z X (YL cy adc adm E G A 9 Q)) (sx : SX X A sc sq xs) (hL : sq ≤ 2560) (C : Cx X (YL cy adc adm E G A 9 Q) cL_law RL (some .boolean) room_1 (tyL cy)) (N : Nat) (n : Nat) (rec : SL → Int → Option Unit) (ih : ∀ (σ : SL) (i : Int) (a bb : Nat), rng i → a + n * 1000 ≤ 600000 → bb + n * 13000 ≤ 7200000 → T X (YL cy adc adm E G A 9 Q) (fun (_ : Unit) => ∀ (q : SL) (a bb : Nat), a ≤ 600000 → bb ≤ 7200000 → J X (YL cy adc adm E G A 9 Q) a bb 3734 [] [] q) a bb 28 [(0, .ref sc), (1, .ref (adc 0)), (2, .ref (adm 0)), (3, .ref (adm 11)), (4, .ref (adm 12)), (5, vi i)] [] σ (rec σ i)) (σ : SL) (i : Int) (a bb : Nat) (hi : rng i) (hi0 : 0 ≤ i ∧ i < (sq : Int)) (ha : a + (n + 1) * 1000 ≤ 600000) (hb : bb + (n + 1) * 13000 ≤ 7200000) : T X (YL cy adc adm E G A 9 Q) (fun (_ : Unit) => ∀ (q : SL) (a bb : Nat), a ≤ 600000 → bb ≤ 7200000 → J X (YL cy adc adm E G A 9 Q) a bb 3734 [] [] q) a bb 3256 [(0, .ref sc), (1, .ref (adc 0)), (2, .ref (adm 0)), (3, .ref (adm 11)), (4, .ref (adm 12)), (5, vi i)] [] σ (f_law_50 sq xs N rec σ i) := by
  have hsl : sq ≤ 2147483647 := by omega
  have hsq : rng (sq : Int) := by unfold rng; omega
  unfold f_law_50
  refine T_aload_n (pc := 3256) C dL_law_3256 rfl 1 rfl ?_
  refine T_lz (pc := 3257) zk.1 hZ C [] [] (fun o h9 hw => ct_X12_isConsistent zk zy N σ.1 hw o h9) kq_101 cm_X12_isConsistent (rcc (rfl : kd 0 = 12) (by decide) (fun _ => rfl) rfl) rfl rfl (Nat.le_of_ble_eq_true rfl) ⟨⟨by decide, by decide⟩, by show _ + 0 ≤ room_1.cells; have := rmC1; omega, by show _ + 0 ≤ room_1.slots; have := rmS1; omega⟩ (a' := a + 0) (b' := bb + 0) ⟨rfl, rfl⟩ dL_law_3257 (fun v1 hv1 => ?_)
  refine T_aload_n (pc := 3260) C dL_law_3260 rfl 2 rfl ?_
  refine T_lmi (pc := 3261) C [] [vi v1.2] (fun o h9 hw => ct_X13_isConsistent (v1.1, σ.2).2.1 hw o h9) kq_102 cm_X13_isConsistent rcm rfl rfl (Nat.le_of_ble_eq_true rfl) ⟨⟨by decide, by decide⟩, by show _ + 0 ≤ room_1.cells; have := rmC1; omega, by show _ + 0 ≤ room_1.slots; have := rmS1; omega⟩ (a' := a + 0) (b' := bb + 0) ⟨rfl, rfl⟩ dL_law_3261 (fun v2 hv2 => ?_)
  refine T_icmp_eq (pc := 3264) C 3728 dL_law_3264 rfl hv1.1 hv2.1 (fun c3 => ?_) (fun c3 => ?_)
  · refine T_iinc (pc := 3728) (L' := [(5, vi (i + 5)), (0, .ref sc), (1, .ref (adc 0)), (2, .ref (adm 0)), (3, .ref (adm 11)), (4, .ref (adm 12))]) C dL_law_3728 (Nat.le_of_ble_eq_true rfl) 5 rfl rfl ?_
    refine T_goto (pc := 3731) C 28 dL_law_3731 rfl ?_
    refine T_sub (L' := [(0, .ref sc), (1, .ref (adc 0)), (2, .ref (adm 0)), (3, .ref (adm 11)), (4, .ref (adm 12)), (5, vi (i + 5))]) [1, 2, 3, 4, 5, 0] rfl ?_
    exact ih ((v1.1, σ.2).1, v2.1, (v1.1, σ.2).2.2) (i + 5) _ _ (by unfold rng; omega) (stp (c := 0) ha (by decide)) (stp (c := 0) hb (by decide))
  · refine T_iconst (pc := 3267) C dL_law_3267 ?_
    exact T_none
noncomputable def f_law_51 (sq : Nat) (xs : Nat → Int32) (N : Nat) (rec : SL → Int → Option Unit) (σ : SL) (i : Int) : Option Unit :=
  if 0 ≤ (i + 1) ∧ (i + 1) < (sq : Int) then oB (∃ t, BI σ.1 t) ((f_L_renderLine N σ (scv xs (i + 1))).bind fun v2 => dall (RR v2) fun τv2 => (f_X13_renderLine N τv2.2.1 (scv xs (i + 1))).bind fun v3 => (f_X13_thrown (τv2.1, v3.1, τv2.2.2).2.1).bind fun v4 => (if v4 = v2.1.2 then (if v2.1.2 = 0 then (if (lcm ((τv2.1, v3.1, τv2.2.2).2.2.1) v3.2) = 0 then rec (τv2.1, v3.1, τv2.2.2) (i + 5) else none) else rec (τv2.1, v3.1, τv2.2.2) (i + 5)) else none)) else none
theorem lc_51 {X : vjX} {A : Nat → Prop} {Q : State → Prop} {cy : Nat → ClassId} {adc adm : Nat → Nat} {E : Nat → Nat → Nat} {G : va_G} {Z : vZ} {sa : Nat → Nat} {sc sq : Nat} {xs : Nat → Int32} (zk : Zk Z E) (zy : Zy Z E sa) (zs : ZS Z E) (zE : ZE Z) (zp : ZP Z) (zd : ZD Z E) (hst : X.2.1.stackTraces = false) (hZ : Zx Z X (YL cy adc adm E G A 9 Q)) (sx : SX X A sc sq xs) (hL : sq ≤ 2560) (C : Cx X (YL cy adc adm E G A 9 Q) cL_law RL (some .boolean) room_1 (tyL cy)) (N : Nat) (n : Nat) (rec : SL → Int → Option Unit) (ih : ∀ (σ : SL) (i : Int) (a bb : Nat), rng i → a + n * 1000 ≤ 600000 → bb + n * 13000 ≤ 7200000 → T X (YL cy adc adm E G A 9 Q) (fun (_ : Unit) => ∀ (q : SL) (a bb : Nat), a ≤ 600000 → bb ≤ 7200000 → J X (YL cy adc adm E G A 9 Q) a bb 3734 [] [] q) a bb 28 [(0, .ref sc), (1, .ref (adc 0)), (2, .ref (adm 0)), (3, .ref (adm 11)), (4, .ref (adm 12)), (5, vi i)] [] σ (rec σ i)) (σ : SL) (i : Int) (a bb : Nat) (hi : rng i) (hi0 : 0 ≤ i ∧ i < (sq : Int)) (ha : a + (n + 1) * 1000 ≤ 600000) (hb : bb + (n + 1) * 13000 ≤ 7200000) : T X (YL cy adc adm E G A 9 Q) (fun (_ : Unit) => ∀ (q : SL) (a bb : Nat), a ≤ 600000 → bb ≤ 7200000 → J X (YL cy adc adm E G A 9 Q) a bb 3734 [] [] q) a bb 3269 [(0, .ref sc), (1, .ref (adc 0)), (2, .ref (adm 0)), (3, .ref (adm 11)), (4, .ref (adm 12)), (5, vi i)] [] σ (f_law_51 sq xs N rec σ i) := by
  have hsl : sq ≤ 2147483647 := by omega
  have hsq : rng (sq : Int) := by unfold rng; omega
  unfold f_law_51
  refine T_aload_n (pc := 3269) C dL_law_3269 rfl 1 rfl ?_
  refine T_aload_n (pc := 3270) C dL_law_3270 rfl 0 rfl ?_
  refine T_iload (pc := 3271) C dL_law_3271 5 rfl ?_
  refine T_iconst (pc := 3273) C dL_law_3273 ?_
  refine T_iadd (pc := 3274) C dL_law_3274 ?_
  refine T_guard (fun g1 => ?_)
  refine T_sld sx (pc := 3275) C hsl g1 dL_law_3275 ?_
  refine T_aload_n (pc := 3276) C dL_law_3276 rfl 3 rfl ?_
  refine T_oB (fun hB9 => ?_)
  obtain ⟨t9, hB9⟩ := hB9
  refine T_lhR (pc := 3277) zk.1 hZ C [.ref (adc 0), vi (scv xs (i + 1)), .ref (adm 11)] [] (fun o h9 hw => ct_L_renderLine zk zy zs zE zp zd hst N σ (scv xs (i + 1)) (scv_rng _ _) t9 hB9 hw o h9) kq_103 cm_L_renderLine rfl rfl (Nat.le_of_ble_eq_true rfl) ⟨⟨by decide, by decide⟩, by show _ + 60 ≤ room_1.cells; have := rmC1; omega, by show _ + 6000 ≤ room_1.slots; have := rmS1; omega⟩ (a' := a + 60) (b' := bb + 6000) ⟨rfl, rfl⟩ dL_law_3277 (fun v2 τv2 hRv2 hv2 => ?_)
  refine T_istore (pc := 3280) (L' := [(6, vi v2.1.2), (0, .ref sc), (1, .ref (adc 0)), (2, .ref (adm 0)), (3, .ref (adm 11)), (4, .ref (adm 12)), (5, vi i)]) C dL_law_3280 (Nat.le_of_ble_eq_true rfl) rfl ?_
  refine T_aload_n (pc := 3282) C dL_law_3282 rfl 3 rfl ?_
  refine T_aload_n (pc := 3283) C dL_law_3283 rfl 1 rfl ?_
  refine T_iload (pc := 3284) C dL_law_3284 6 rfl ?_
  refine T_iconst (pc := 3286) C dL_law_3286 ?_
  refine T_iadd (pc := 3287) C dL_law_3287 ?_
  refine T_sld sx (pc := 3288) C hsl g1 dL_law_3288 ?_
  refine T_lmi (pc := 3289) C [vi (scv xs (i + 1))] [] (fun o h9 hw => ct_X13_renderLine N τv2.2.1 (scv xs (i + 1)) (scv_rng _ _) hw o h9) kq_104 cm_X13_renderLine rcm rfl rfl (Nat.le_of_ble_eq_true rfl) ⟨⟨by decide, by decide⟩, by show _ + 0 ≤ room_1.cells; have := rmC1; omega, by show _ + 0 ≤ room_1.slots; have := rmS1; omega⟩ (a' := a + 60) (b' := bb + 6000) ⟨rfl, rfl⟩ dL_law_3289 (fun v3 hv3 => ?_)
  refine T_istore (pc := 3292) (L' := [(7, vi v3.2), (6, vi v2.1.2), (0, .ref sc), (1, .ref (adc 0)), (2, .ref (adm 0)), (3, .ref (adm 11)), (4, .ref (adm 12)), (5, vi i)]) C dL_law_3292 (Nat.le_of_ble_eq_true rfl) rfl ?_
  refine T_aload_n (pc := 3294) C dL_law_3294 rfl 4 rfl ?_
  refine T_lmp (pc := 3295) C [] [] (fun o h9 hw => ct_X13_thrown (τv2.1, v3.1, τv2.2.2).2.1 hw o h9) kq_2 cm_X13_thrown rcm rfl rfl (Nat.le_of_ble_eq_true rfl) ⟨⟨by decide, by decide⟩, by show _ + 0 ≤ room_1.cells; have := rmC1; omega, by show _ + 0 ≤ room_1.slots; have := rmS1; omega⟩ (a' := a + 60) (b' := bb + 6000) ⟨rfl, rfl⟩ dL_law_3295 (fun v4 hv4 => ?_)
  refine T_iload (pc := 3298) C dL_law_3298 1 rfl ?_
  refine T_icmp_eq (pc := 3300) C 3305 dL_law_3300 rfl hv4.1 hv2 (fun c5 => ?_) (fun c5 => ?_)
  · refine T_iload (pc := 3305) C dL_law_3305 1 rfl ?_
    refine T_if_ne (pc := 3307) C 3322 dL_law_3307 rfl hv2 (fun c6 => ?_) (fun c6 => ?_)
    · refine T_goto (pc := 3322) C 3728 dL_law_3322 rfl ?_
      refine T_iinc (pc := 3728) (L' := [(5, vi (i + 5)), (7, vi v3.2), (6, vi v2.1.2), (0, .ref sc), (1, .ref (adc 0)), (2, .ref (adm 0)), (3, .ref (adm 11)), (4, .ref (adm 12))]) C dL_law_3728 (Nat.le_of_ble_eq_true rfl) 7 rfl rfl ?_
      refine T_goto (pc := 3731) C 28 dL_law_3731 rfl ?_
      refine T_sub (L' := [(0, .ref sc), (1, .ref (adc 0)), (2, .ref (adm 0)), (3, .ref (adm 11)), (4, .ref (adm 12)), (5, vi (i + 5))]) [3, 4, 5, 6, 7, 0] rfl ?_
      exact ih (τv2.1, v3.1, τv2.2.2) (i + 5) _ _ (by unfold rng; omega) (stp (c := 60) ha (by decide)) (stp (c := 6000) hb (by decide))
    · refine T_aload_n (pc := 3310) C dL_law_3310 rfl 5 rfl ?_
      refine T_iconst (pc := 3311) C dL_law_3311 ?_
      refine T_lald (pc := 3312) C dL_law_3312 (fun o7 => ?_)
      refine T_iload (pc := 3313) C dL_law_3313 0 rfl ?_
      refine T_i2l (pc := 3315) C hv3.1 dL_law_3315 ?_
      refine T_lcmp (pc := 3316) C o7 hv3.1 dL_law_3316 ?_
      refine T_if_eq (pc := 3317) C 3322 dL_law_3317 rfl (lcm_rng _ _) (fun c8 => ?_) (fun c8 => ?_)
      · refine T_goto (pc := 3322) C 3728 dL_law_3322 rfl ?_
        refine T_iinc (pc := 3728) (L' := [(5, vi (i + 5)), (7, vi v3.2), (6, vi v2.1.2), (0, .ref sc), (1, .ref (adc 0)), (2, .ref (adm 0)), (3, .ref (adm 11)), (4, .ref (adm 12))]) C dL_law_3728 (Nat.le_of_ble_eq_true rfl) 7 rfl rfl ?_
        refine T_goto (pc := 3731) C 28 dL_law_3731 rfl ?_
        refine T_sub (L' := [(0, .ref sc), (1, .ref (adc 0)), (2, .ref (adm 0)), (3, .ref (adm 11)), (4, .ref (adm 12)), (5, vi (i + 5))]) [3, 4, 5, 6, 7, 0] rfl ?_
        exact ih (τv2.1, v3.1, τv2.2.2) (i + 5) _ _ (by unfold rng; omega) (stp (c := 60) ha (by decide)) (stp (c := 6000) hb (by decide))
      · refine T_iconst (pc := 3320) C dL_law_3320 ?_
        exact T_none
  · refine T_iconst (pc := 3303) C dL_law_3303 ?_
    exact T_none
noncomputable def f_law_52 (sq : Nat) (xs : Nat → Int32) (N : Nat) (rec : SL → Int → Option Unit) (σ : SL) (i : Int) : Option Unit :=
  if 0 ≤ (i + 1) ∧ (i + 1) < (sq : Int) then oB (∃ t, BI σ.1 t) ((f_L_renderTicket N σ (scv xs (i + 1))).bind fun v2 => dall (RR v2) fun τv2 => (f_X13_renderTicket N τv2.2.1 (scv xs (i + 1))).bind fun v3 => (f_X13_thrown (τv2.1, v3.1, τv2.2.2).2.1).bind fun v4 => (if v4 = v2.1.2 then (if v2.1.2 = 0 then (if (lcm ((τv2.1, v3.1, τv2.2.2).2.2.1) v3.2) = 0 then rec (τv2.1, v3.1, τv2.2.2) (i + 5) else none) else rec (τv2.1, v3.1, τv2.2.2) (i + 5)) else none)) else none
theorem lc_52 {X : vjX} {A : Nat → Prop} {Q : State → Prop} {cy : Nat → ClassId} {adc adm : Nat → Nat} {E : Nat → Nat → Nat} {G : va_G} {Z : vZ} {sa : Nat → Nat} {sc sq : Nat} {xs : Nat → Int32} (zk : Zk Z E) (zy : Zy Z E sa) (zs : ZS Z E) (zE : ZE Z) (zp : ZP Z) (zd : ZD Z E) (hst : X.2.1.stackTraces = false) (hZ : Zx Z X (YL cy adc adm E G A 9 Q)) (sx : SX X A sc sq xs) (hL : sq ≤ 2560) (C : Cx X (YL cy adc adm E G A 9 Q) cL_law RL (some .boolean) room_1 (tyL cy)) (N : Nat) (n : Nat) (rec : SL → Int → Option Unit) (ih : ∀ (σ : SL) (i : Int) (a bb : Nat), rng i → a + n * 1000 ≤ 600000 → bb + n * 13000 ≤ 7200000 → T X (YL cy adc adm E G A 9 Q) (fun (_ : Unit) => ∀ (q : SL) (a bb : Nat), a ≤ 600000 → bb ≤ 7200000 → J X (YL cy adc adm E G A 9 Q) a bb 3734 [] [] q) a bb 28 [(0, .ref sc), (1, .ref (adc 0)), (2, .ref (adm 0)), (3, .ref (adm 11)), (4, .ref (adm 12)), (5, vi i)] [] σ (rec σ i)) (σ : SL) (i : Int) (a bb : Nat) (hi : rng i) (hi0 : 0 ≤ i ∧ i < (sq : Int)) (ha : a + (n + 1) * 1000 ≤ 600000) (hb : bb + (n + 1) * 13000 ≤ 7200000) : T X (YL cy adc adm E G A 9 Q) (fun (_ : Unit) => ∀ (q : SL) (a bb : Nat), a ≤ 600000 → bb ≤ 7200000 → J X (YL cy adc adm E G A 9 Q) a bb 3734 [] [] q) a bb 3325 [(0, .ref sc), (1, .ref (adc 0)), (2, .ref (adm 0)), (3, .ref (adm 11)), (4, .ref (adm 12)), (5, vi i)] [] σ (f_law_52 sq xs N rec σ i) := by
  have hsl : sq ≤ 2147483647 := by omega
  have hsq : rng (sq : Int) := by unfold rng; omega
  unfold f_law_52
  refine T_aload_n (pc := 3325) C dL_law_3325 rfl 1 rfl ?_
  refine T_aload_n (pc := 3326) C dL_law_3326 rfl 0 rfl ?_
  refine T_iload (pc := 3327) C dL_law_3327 5 rfl ?_
  refine T_iconst (pc := 3329) C dL_law_3329 ?_
  refine T_iadd (pc := 3330) C dL_law_3330 ?_
  refine T_guard (fun g1 => ?_)
  refine T_sld sx (pc := 3331) C hsl g1 dL_law_3331 ?_
  refine T_aload_n (pc := 3332) C dL_law_3332 rfl 3 rfl ?_
  refine T_oB (fun hB9 => ?_)
  obtain ⟨t9, hB9⟩ := hB9
  refine T_lhR (pc := 3333) zk.1 hZ C [.ref (adc 0), vi (scv xs (i + 1)), .ref (adm 11)] [] (fun o h9 hw => ct_L_renderTicket zk zy zs zE zp zd hst N σ (scv xs (i + 1)) (scv_rng _ _) t9 hB9 hw o h9) kq_105 cm_L_renderTicket rfl rfl (Nat.le_of_ble_eq_true rfl) ⟨⟨by decide, by decide⟩, by show _ + 60 ≤ room_1.cells; have := rmC1; omega, by show _ + 6000 ≤ room_1.slots; have := rmS1; omega⟩ (a' := a + 60) (b' := bb + 6000) ⟨rfl, rfl⟩ dL_law_3333 (fun v2 τv2 hRv2 hv2 => ?_)
  refine T_istore (pc := 3336) (L' := [(6, vi v2.1.2), (0, .ref sc), (1, .ref (adc 0)), (2, .ref (adm 0)), (3, .ref (adm 11)), (4, .ref (adm 12)), (5, vi i)]) C dL_law_3336 (Nat.le_of_ble_eq_true rfl) rfl ?_
  refine T_aload_n (pc := 3338) C dL_law_3338 rfl 3 rfl ?_
  refine T_aload_n (pc := 3339) C dL_law_3339 rfl 1 rfl ?_
  refine T_iload (pc := 3340) C dL_law_3340 6 rfl ?_
  refine T_iconst (pc := 3342) C dL_law_3342 ?_
  refine T_iadd (pc := 3343) C dL_law_3343 ?_
  refine T_sld sx (pc := 3344) C hsl g1 dL_law_3344 ?_
  refine T_lmi (pc := 3345) C [vi (scv xs (i + 1))] [] (fun o h9 hw => ct_X13_renderTicket N τv2.2.1 (scv xs (i + 1)) (scv_rng _ _) hw o h9) kq_106 cm_X13_renderTicket rcm rfl rfl (Nat.le_of_ble_eq_true rfl) ⟨⟨by decide, by decide⟩, by show _ + 0 ≤ room_1.cells; have := rmC1; omega, by show _ + 0 ≤ room_1.slots; have := rmS1; omega⟩ (a' := a + 60) (b' := bb + 6000) ⟨rfl, rfl⟩ dL_law_3345 (fun v3 hv3 => ?_)
  refine T_istore (pc := 3348) (L' := [(7, vi v3.2), (6, vi v2.1.2), (0, .ref sc), (1, .ref (adc 0)), (2, .ref (adm 0)), (3, .ref (adm 11)), (4, .ref (adm 12)), (5, vi i)]) C dL_law_3348 (Nat.le_of_ble_eq_true rfl) rfl ?_
  refine T_aload_n (pc := 3350) C dL_law_3350 rfl 4 rfl ?_
  refine T_lmp (pc := 3351) C [] [] (fun o h9 hw => ct_X13_thrown (τv2.1, v3.1, τv2.2.2).2.1 hw o h9) kq_2 cm_X13_thrown rcm rfl rfl (Nat.le_of_ble_eq_true rfl) ⟨⟨by decide, by decide⟩, by show _ + 0 ≤ room_1.cells; have := rmC1; omega, by show _ + 0 ≤ room_1.slots; have := rmS1; omega⟩ (a' := a + 60) (b' := bb + 6000) ⟨rfl, rfl⟩ dL_law_3351 (fun v4 hv4 => ?_)
  refine T_iload (pc := 3354) C dL_law_3354 1 rfl ?_
  refine T_icmp_eq (pc := 3356) C 3361 dL_law_3356 rfl hv4.1 hv2 (fun c5 => ?_) (fun c5 => ?_)
  · refine T_iload (pc := 3361) C dL_law_3361 1 rfl ?_
    refine T_if_ne (pc := 3363) C 3378 dL_law_3363 rfl hv2 (fun c6 => ?_) (fun c6 => ?_)
    · refine T_goto (pc := 3378) C 3728 dL_law_3378 rfl ?_
      refine T_iinc (pc := 3728) (L' := [(5, vi (i + 5)), (7, vi v3.2), (6, vi v2.1.2), (0, .ref sc), (1, .ref (adc 0)), (2, .ref (adm 0)), (3, .ref (adm 11)), (4, .ref (adm 12))]) C dL_law_3728 (Nat.le_of_ble_eq_true rfl) 7 rfl rfl ?_
      refine T_goto (pc := 3731) C 28 dL_law_3731 rfl ?_
      refine T_sub (L' := [(0, .ref sc), (1, .ref (adc 0)), (2, .ref (adm 0)), (3, .ref (adm 11)), (4, .ref (adm 12)), (5, vi (i + 5))]) [3, 4, 5, 6, 7, 0] rfl ?_
      exact ih (τv2.1, v3.1, τv2.2.2) (i + 5) _ _ (by unfold rng; omega) (stp (c := 60) ha (by decide)) (stp (c := 6000) hb (by decide))
    · refine T_aload_n (pc := 3366) C dL_law_3366 rfl 5 rfl ?_
      refine T_iconst (pc := 3367) C dL_law_3367 ?_
      refine T_lald (pc := 3368) C dL_law_3368 (fun o7 => ?_)
      refine T_iload (pc := 3369) C dL_law_3369 0 rfl ?_
      refine T_i2l (pc := 3371) C hv3.1 dL_law_3371 ?_
      refine T_lcmp (pc := 3372) C o7 hv3.1 dL_law_3372 ?_
      refine T_if_eq (pc := 3373) C 3378 dL_law_3373 rfl (lcm_rng _ _) (fun c8 => ?_) (fun c8 => ?_)
      · refine T_goto (pc := 3378) C 3728 dL_law_3378 rfl ?_
        refine T_iinc (pc := 3728) (L' := [(5, vi (i + 5)), (7, vi v3.2), (6, vi v2.1.2), (0, .ref sc), (1, .ref (adc 0)), (2, .ref (adm 0)), (3, .ref (adm 11)), (4, .ref (adm 12))]) C dL_law_3728 (Nat.le_of_ble_eq_true rfl) 7 rfl rfl ?_
        refine T_goto (pc := 3731) C 28 dL_law_3731 rfl ?_
        refine T_sub (L' := [(0, .ref sc), (1, .ref (adc 0)), (2, .ref (adm 0)), (3, .ref (adm 11)), (4, .ref (adm 12)), (5, vi (i + 5))]) [3, 4, 5, 6, 7, 0] rfl ?_
        exact ih (τv2.1, v3.1, τv2.2.2) (i + 5) _ _ (by unfold rng; omega) (stp (c := 60) ha (by decide)) (stp (c := 6000) hb (by decide))
      · refine T_iconst (pc := 3376) C dL_law_3376 ?_
        exact T_none
  · refine T_iconst (pc := 3359) C dL_law_3359 ?_
    exact T_none
noncomputable def f_law_53 (sq : Nat) (xs : Nat → Int32) (N : Nat) (rec : SL → Int → Option Unit) (σ : SL) (i : Int) : Option Unit :=
  if 0 ≤ (i + 1) ∧ (i + 1) < (sq : Int) then (f_L_outputAt N σ (scv xs (i + 1))).bind fun v2 => (f_X13_outputAt v2.1.2.1 (scv xs (i + 1))).bind fun v3 => (f_X13_thrown (v2.1.1, v3.1, v2.1.2.2).2.1).bind fun v4 => (if v4 = v2.2 then (if v2.2 = 0 then (if (lcm ((v2.1.1, v3.1, v2.1.2.2).2.2.1) v3.2) = 0 then rec (v2.1.1, v3.1, v2.1.2.2) (i + 5) else none) else rec (v2.1.1, v3.1, v2.1.2.2) (i + 5)) else none) else none
theorem lc_53 {X : vjX} {A : Nat → Prop} {Q : State → Prop} {cy : Nat → ClassId} {adc adm : Nat → Nat} {E : Nat → Nat → Nat} {G : va_G} {Z : vZ} {sa : Nat → Nat} {sc sq : Nat} {xs : Nat → Int32} (zk : Zk Z E) (zy : Zy Z E sa) (zs : ZS Z E) (zE : ZE Z) (zp : ZP Z) (zd : ZD Z E) (hst : X.2.1.stackTraces = false) (hZ : Zx Z X (YL cy adc adm E G A 9 Q)) (sx : SX X A sc sq xs) (hL : sq ≤ 2560) (C : Cx X (YL cy adc adm E G A 9 Q) cL_law RL (some .boolean) room_1 (tyL cy)) (N : Nat) (n : Nat) (rec : SL → Int → Option Unit) (ih : ∀ (σ : SL) (i : Int) (a bb : Nat), rng i → a + n * 1000 ≤ 600000 → bb + n * 13000 ≤ 7200000 → T X (YL cy adc adm E G A 9 Q) (fun (_ : Unit) => ∀ (q : SL) (a bb : Nat), a ≤ 600000 → bb ≤ 7200000 → J X (YL cy adc adm E G A 9 Q) a bb 3734 [] [] q) a bb 28 [(0, .ref sc), (1, .ref (adc 0)), (2, .ref (adm 0)), (3, .ref (adm 11)), (4, .ref (adm 12)), (5, vi i)] [] σ (rec σ i)) (σ : SL) (i : Int) (a bb : Nat) (hi : rng i) (hi0 : 0 ≤ i ∧ i < (sq : Int)) (ha : a + (n + 1) * 1000 ≤ 600000) (hb : bb + (n + 1) * 13000 ≤ 7200000) : T X (YL cy adc adm E G A 9 Q) (fun (_ : Unit) => ∀ (q : SL) (a bb : Nat), a ≤ 600000 → bb ≤ 7200000 → J X (YL cy adc adm E G A 9 Q) a bb 3734 [] [] q) a bb 3381 [(0, .ref sc), (1, .ref (adc 0)), (2, .ref (adm 0)), (3, .ref (adm 11)), (4, .ref (adm 12)), (5, vi i)] [] σ (f_law_53 sq xs N rec σ i) := by
  have hsl : sq ≤ 2147483647 := by omega
  have hsq : rng (sq : Int) := by unfold rng; omega
  unfold f_law_53
  refine T_aload_n (pc := 3381) C dL_law_3381 rfl 1 rfl ?_
  refine T_aload_n (pc := 3382) C dL_law_3382 rfl 0 rfl ?_
  refine T_iload (pc := 3383) C dL_law_3383 5 rfl ?_
  refine T_iconst (pc := 3385) C dL_law_3385 ?_
  refine T_iadd (pc := 3386) C dL_law_3386 ?_
  refine T_guard (fun g1 => ?_)
  refine T_sld sx (pc := 3387) C hsl g1 dL_law_3387 ?_
  refine T_aload_n (pc := 3388) C dL_law_3388 rfl 3 rfl ?_
  refine T_lh (pc := 3389) zk.1 hZ C [.ref (adc 0), vi (scv xs (i + 1)), .ref (adm 11)] [] (fun o h9 hw => ct_L_outputAt zk zy zs zE zp zd hst N σ (scv xs (i + 1)) (scv_rng _ _) hw o h9) kq_107 cm_L_outputAt rfl rfl (Nat.le_of_ble_eq_true rfl) ⟨⟨by decide, by decide⟩, by show _ + 1 ≤ room_1.cells; have := rmC1; omega, by show _ + 6 ≤ room_1.slots; have := rmS1; omega⟩ (a' := a + 1) (b' := bb + 6) ⟨rfl, rfl⟩ dL_law_3389 (fun v2 hv2 => ?_)
  refine T_istore (pc := 3392) (L' := [(6, vi v2.2), (0, .ref sc), (1, .ref (adc 0)), (2, .ref (adm 0)), (3, .ref (adm 11)), (4, .ref (adm 12)), (5, vi i)]) C dL_law_3392 (Nat.le_of_ble_eq_true rfl) rfl ?_
  refine T_aload_n (pc := 3394) C dL_law_3394 rfl 3 rfl ?_
  refine T_aload_n (pc := 3395) C dL_law_3395 rfl 1 rfl ?_
  refine T_iload (pc := 3396) C dL_law_3396 6 rfl ?_
  refine T_iconst (pc := 3398) C dL_law_3398 ?_
  refine T_iadd (pc := 3399) C dL_law_3399 ?_
  refine T_sld sx (pc := 3400) C hsl g1 dL_law_3400 ?_
  refine T_lmi (pc := 3401) C [vi (scv xs (i + 1))] [] (fun o h9 hw => ct_X13_outputAt v2.1.2.1 (scv xs (i + 1)) (scv_rng _ _) hw o h9) kq_108 cm_X13_outputAt rcm rfl rfl (Nat.le_of_ble_eq_true rfl) ⟨⟨by decide, by decide⟩, by show _ + 0 ≤ room_1.cells; have := rmC1; omega, by show _ + 0 ≤ room_1.slots; have := rmS1; omega⟩ (a' := a + 1) (b' := bb + 6) ⟨rfl, rfl⟩ dL_law_3401 (fun v3 hv3 => ?_)
  refine T_istore (pc := 3404) (L' := [(7, vi v3.2), (6, vi v2.2), (0, .ref sc), (1, .ref (adc 0)), (2, .ref (adm 0)), (3, .ref (adm 11)), (4, .ref (adm 12)), (5, vi i)]) C dL_law_3404 (Nat.le_of_ble_eq_true rfl) rfl ?_
  refine T_aload_n (pc := 3406) C dL_law_3406 rfl 4 rfl ?_
  refine T_lmp (pc := 3407) C [] [] (fun o h9 hw => ct_X13_thrown (v2.1.1, v3.1, v2.1.2.2).2.1 hw o h9) kq_2 cm_X13_thrown rcm rfl rfl (Nat.le_of_ble_eq_true rfl) ⟨⟨by decide, by decide⟩, by show _ + 0 ≤ room_1.cells; have := rmC1; omega, by show _ + 0 ≤ room_1.slots; have := rmS1; omega⟩ (a' := a + 1) (b' := bb + 6) ⟨rfl, rfl⟩ dL_law_3407 (fun v4 hv4 => ?_)
  refine T_iload (pc := 3410) C dL_law_3410 1 rfl ?_
  refine T_icmp_eq (pc := 3412) C 3417 dL_law_3412 rfl hv4.1 hv2 (fun c5 => ?_) (fun c5 => ?_)
  · refine T_iload (pc := 3417) C dL_law_3417 1 rfl ?_
    refine T_if_ne (pc := 3419) C 3434 dL_law_3419 rfl hv2 (fun c6 => ?_) (fun c6 => ?_)
    · refine T_goto (pc := 3434) C 3728 dL_law_3434 rfl ?_
      refine T_iinc (pc := 3728) (L' := [(5, vi (i + 5)), (7, vi v3.2), (6, vi v2.2), (0, .ref sc), (1, .ref (adc 0)), (2, .ref (adm 0)), (3, .ref (adm 11)), (4, .ref (adm 12))]) C dL_law_3728 (Nat.le_of_ble_eq_true rfl) 7 rfl rfl ?_
      refine T_goto (pc := 3731) C 28 dL_law_3731 rfl ?_
      refine T_sub (L' := [(0, .ref sc), (1, .ref (adc 0)), (2, .ref (adm 0)), (3, .ref (adm 11)), (4, .ref (adm 12)), (5, vi (i + 5))]) [3, 4, 5, 6, 7, 0] rfl ?_
      exact ih (v2.1.1, v3.1, v2.1.2.2) (i + 5) _ _ (by unfold rng; omega) (stp (c := 1) ha (by decide)) (stp (c := 6) hb (by decide))
    · refine T_aload_n (pc := 3422) C dL_law_3422 rfl 5 rfl ?_
      refine T_iconst (pc := 3423) C dL_law_3423 ?_
      refine T_lald (pc := 3424) C dL_law_3424 (fun o7 => ?_)
      refine T_iload (pc := 3425) C dL_law_3425 0 rfl ?_
      refine T_i2l (pc := 3427) C hv3.1 dL_law_3427 ?_
      refine T_lcmp (pc := 3428) C o7 hv3.1 dL_law_3428 ?_
      refine T_if_eq (pc := 3429) C 3434 dL_law_3429 rfl (lcm_rng _ _) (fun c8 => ?_) (fun c8 => ?_)
      · refine T_goto (pc := 3434) C 3728 dL_law_3434 rfl ?_
        refine T_iinc (pc := 3728) (L' := [(5, vi (i + 5)), (7, vi v3.2), (6, vi v2.2), (0, .ref sc), (1, .ref (adc 0)), (2, .ref (adm 0)), (3, .ref (adm 11)), (4, .ref (adm 12))]) C dL_law_3728 (Nat.le_of_ble_eq_true rfl) 7 rfl rfl ?_
        refine T_goto (pc := 3731) C 28 dL_law_3731 rfl ?_
        refine T_sub (L' := [(0, .ref sc), (1, .ref (adc 0)), (2, .ref (adm 0)), (3, .ref (adm 11)), (4, .ref (adm 12)), (5, vi (i + 5))]) [3, 4, 5, 6, 7, 0] rfl ?_
        exact ih (v2.1.1, v3.1, v2.1.2.2) (i + 5) _ _ (by unfold rng; omega) (stp (c := 1) ha (by decide)) (stp (c := 6) hb (by decide))
      · refine T_iconst (pc := 3432) C dL_law_3432 ?_
        exact T_none
  · refine T_iconst (pc := 3415) C dL_law_3415 ?_
    exact T_none
noncomputable def f_law_54 (sq : Nat) (xs : Nat → Int32) (N : Nat) (rec : SL → Int → Option Unit) (σ : SL) (i : Int) : Option Unit :=
  if 0 ≤ (i + 1) ∧ (i + 1) < (sq : Int) then (f_L_type N σ ((scv xs (i + 1)) % 65536)).bind fun v2 => (f_X13_type v2.1.2.1 ((scv xs (i + 1)) % 65536)).bind fun v3 => (f_X13_thrown (v2.1.1, v3.1, v2.1.2.2).2.1).bind fun v4 => (if v4 = v2.2 then (if v2.2 = 0 then (if (lcm ((v2.1.1, v3.1, v2.1.2.2).2.2.1) v3.2) = 0 then rec (v2.1.1, v3.1, v2.1.2.2) (i + 5) else none) else rec (v2.1.1, v3.1, v2.1.2.2) (i + 5)) else none) else none
theorem lc_54 {X : vjX} {A : Nat → Prop} {Q : State → Prop} {cy : Nat → ClassId} {adc adm : Nat → Nat} {E : Nat → Nat → Nat} {G : va_G} {Z : vZ} {sa : Nat → Nat} {sc sq : Nat} {xs : Nat → Int32} (zk : Zk Z E) (zy : Zy Z E sa) (zs : ZS Z E) (zE : ZE Z) (zp : ZP Z) (zd : ZD Z E) (hst : X.2.1.stackTraces = false) (hZ : Zx Z X (YL cy adc adm E G A 9 Q)) (sx : SX X A sc sq xs) (hL : sq ≤ 2560) (C : Cx X (YL cy adc adm E G A 9 Q) cL_law RL (some .boolean) room_1 (tyL cy)) (N : Nat) (n : Nat) (rec : SL → Int → Option Unit) (ih : ∀ (σ : SL) (i : Int) (a bb : Nat), rng i → a + n * 1000 ≤ 600000 → bb + n * 13000 ≤ 7200000 → T X (YL cy adc adm E G A 9 Q) (fun (_ : Unit) => ∀ (q : SL) (a bb : Nat), a ≤ 600000 → bb ≤ 7200000 → J X (YL cy adc adm E G A 9 Q) a bb 3734 [] [] q) a bb 28 [(0, .ref sc), (1, .ref (adc 0)), (2, .ref (adm 0)), (3, .ref (adm 11)), (4, .ref (adm 12)), (5, vi i)] [] σ (rec σ i)) (σ : SL) (i : Int) (a bb : Nat) (hi : rng i) (hi0 : 0 ≤ i ∧ i < (sq : Int)) (ha : a + (n + 1) * 1000 ≤ 600000) (hb : bb + (n + 1) * 13000 ≤ 7200000) : T X (YL cy adc adm E G A 9 Q) (fun (_ : Unit) => ∀ (q : SL) (a bb : Nat), a ≤ 600000 → bb ≤ 7200000 → J X (YL cy adc adm E G A 9 Q) a bb 3734 [] [] q) a bb 3437 [(0, .ref sc), (1, .ref (adc 0)), (2, .ref (adm 0)), (3, .ref (adm 11)), (4, .ref (adm 12)), (5, vi i)] [] σ (f_law_54 sq xs N rec σ i) := by
  have hsl : sq ≤ 2147483647 := by omega
  have hsq : rng (sq : Int) := by unfold rng; omega
  unfold f_law_54
  refine T_aload_n (pc := 3437) C dL_law_3437 rfl 1 rfl ?_
  refine T_aload_n (pc := 3438) C dL_law_3438 rfl 0 rfl ?_
  refine T_iload (pc := 3439) C dL_law_3439 5 rfl ?_
  refine T_iconst (pc := 3441) C dL_law_3441 ?_
  refine T_iadd (pc := 3442) C dL_law_3442 ?_
  refine T_guard (fun g1 => ?_)
  refine T_sld sx (pc := 3443) C hsl g1 dL_law_3443 ?_
  refine T_i2cm (pc := 3444) C dL_law_3444 ?_
  refine T_aload_n (pc := 3445) C dL_law_3445 rfl 3 rfl ?_
  refine T_lh (pc := 3446) zk.1 hZ C [.ref (adc 0), vi ((scv xs (i + 1)) % 65536), .ref (adm 11)] [] (fun o h9 hw => ct_L_type zk zy zs zE hst N σ ((scv xs (i + 1)) % 65536) (mod_chr _) hw o h9) kq_109 cm_L_type rfl rfl (Nat.le_of_ble_eq_true rfl) ⟨⟨by decide, by decide⟩, by show _ + 1 ≤ room_1.cells; have := rmC1; omega, by show _ + 6 ≤ room_1.slots; have := rmS1; omega⟩ (a' := a + 1) (b' := bb + 6) ⟨rfl, rfl⟩ dL_law_3446 (fun v2 hv2 => ?_)
  refine T_istore (pc := 3449) (L' := [(6, vi v2.2), (0, .ref sc), (1, .ref (adc 0)), (2, .ref (adm 0)), (3, .ref (adm 11)), (4, .ref (adm 12)), (5, vi i)]) C dL_law_3449 (Nat.le_of_ble_eq_true rfl) rfl ?_
  refine T_aload_n (pc := 3451) C dL_law_3451 rfl 3 rfl ?_
  refine T_aload_n (pc := 3452) C dL_law_3452 rfl 1 rfl ?_
  refine T_iload (pc := 3453) C dL_law_3453 6 rfl ?_
  refine T_iconst (pc := 3455) C dL_law_3455 ?_
  refine T_iadd (pc := 3456) C dL_law_3456 ?_
  refine T_sld sx (pc := 3457) C hsl g1 dL_law_3457 ?_
  refine T_i2cm (pc := 3458) C dL_law_3458 ?_
  refine T_lmi (pc := 3459) C [vi ((scv xs (i + 1)) % 65536)] [] (fun o h9 hw => ct_X13_type v2.1.2.1 ((scv xs (i + 1)) % 65536) (mod_chr _) hw o h9) kq_110 cm_X13_type rcm rfl rfl (Nat.le_of_ble_eq_true rfl) ⟨⟨by decide, by decide⟩, by show _ + 0 ≤ room_1.cells; have := rmC1; omega, by show _ + 0 ≤ room_1.slots; have := rmS1; omega⟩ (a' := a + 1) (b' := bb + 6) ⟨rfl, rfl⟩ dL_law_3459 (fun v3 hv3 => ?_)
  refine T_istore (pc := 3462) (L' := [(7, vi v3.2), (6, vi v2.2), (0, .ref sc), (1, .ref (adc 0)), (2, .ref (adm 0)), (3, .ref (adm 11)), (4, .ref (adm 12)), (5, vi i)]) C dL_law_3462 (Nat.le_of_ble_eq_true rfl) rfl ?_
  refine T_aload_n (pc := 3464) C dL_law_3464 rfl 4 rfl ?_
  refine T_lmp (pc := 3465) C [] [] (fun o h9 hw => ct_X13_thrown (v2.1.1, v3.1, v2.1.2.2).2.1 hw o h9) kq_2 cm_X13_thrown rcm rfl rfl (Nat.le_of_ble_eq_true rfl) ⟨⟨by decide, by decide⟩, by show _ + 0 ≤ room_1.cells; have := rmC1; omega, by show _ + 0 ≤ room_1.slots; have := rmS1; omega⟩ (a' := a + 1) (b' := bb + 6) ⟨rfl, rfl⟩ dL_law_3465 (fun v4 hv4 => ?_)
  refine T_iload (pc := 3468) C dL_law_3468 1 rfl ?_
  refine T_icmp_eq (pc := 3470) C 3475 dL_law_3470 rfl hv4.1 hv2 (fun c5 => ?_) (fun c5 => ?_)
  · refine T_iload (pc := 3475) C dL_law_3475 1 rfl ?_
    refine T_if_ne (pc := 3477) C 3492 dL_law_3477 rfl hv2 (fun c6 => ?_) (fun c6 => ?_)
    · refine T_goto (pc := 3492) C 3728 dL_law_3492 rfl ?_
      refine T_iinc (pc := 3728) (L' := [(5, vi (i + 5)), (7, vi v3.2), (6, vi v2.2), (0, .ref sc), (1, .ref (adc 0)), (2, .ref (adm 0)), (3, .ref (adm 11)), (4, .ref (adm 12))]) C dL_law_3728 (Nat.le_of_ble_eq_true rfl) 7 rfl rfl ?_
      refine T_goto (pc := 3731) C 28 dL_law_3731 rfl ?_
      refine T_sub (L' := [(0, .ref sc), (1, .ref (adc 0)), (2, .ref (adm 0)), (3, .ref (adm 11)), (4, .ref (adm 12)), (5, vi (i + 5))]) [3, 4, 5, 6, 7, 0] rfl ?_
      exact ih (v2.1.1, v3.1, v2.1.2.2) (i + 5) _ _ (by unfold rng; omega) (stp (c := 1) ha (by decide)) (stp (c := 6) hb (by decide))
    · refine T_aload_n (pc := 3480) C dL_law_3480 rfl 5 rfl ?_
      refine T_iconst (pc := 3481) C dL_law_3481 ?_
      refine T_lald (pc := 3482) C dL_law_3482 (fun o7 => ?_)
      refine T_iload (pc := 3483) C dL_law_3483 0 rfl ?_
      refine T_i2l (pc := 3485) C hv3.1 dL_law_3485 ?_
      refine T_lcmp (pc := 3486) C o7 hv3.1 dL_law_3486 ?_
      refine T_if_eq (pc := 3487) C 3492 dL_law_3487 rfl (lcm_rng _ _) (fun c8 => ?_) (fun c8 => ?_)
      · refine T_goto (pc := 3492) C 3728 dL_law_3492 rfl ?_
        refine T_iinc (pc := 3728) (L' := [(5, vi (i + 5)), (7, vi v3.2), (6, vi v2.2), (0, .ref sc), (1, .ref (adc 0)), (2, .ref (adm 0)), (3, .ref (adm 11)), (4, .ref (adm 12))]) C dL_law_3728 (Nat.le_of_ble_eq_true rfl) 7 rfl rfl ?_
        refine T_goto (pc := 3731) C 28 dL_law_3731 rfl ?_
        refine T_sub (L' := [(0, .ref sc), (1, .ref (adc 0)), (2, .ref (adm 0)), (3, .ref (adm 11)), (4, .ref (adm 12)), (5, vi (i + 5))]) [3, 4, 5, 6, 7, 0] rfl ?_
        exact ih (v2.1.1, v3.1, v2.1.2.2) (i + 5) _ _ (by unfold rng; omega) (stp (c := 1) ha (by decide)) (stp (c := 6) hb (by decide))
      · refine T_iconst (pc := 3490) C dL_law_3490 ?_
        exact T_none
  · refine T_iconst (pc := 3473) C dL_law_3473 ?_
    exact T_none
noncomputable def f_law_55 (sq : Nat) (xs : Nat → Int32) (N : Nat) (rec : SL → Int → Option Unit) (σ : SL) (i : Int) : Option Unit :=
  (f_L_runScript N σ ).bind fun v1 => (f_X13_runScript N v1.1.2.1).bind fun v2 => (f_X13_thrown (v1.1.1, v2.1, v1.1.2.2).2.1).bind fun v3 => (if v3 = v1.2 then (if v1.2 = 0 then (if (lcm ((v1.1.1, v2.1, v1.1.2.2).2.2.1) v2.2) = 0 then rec (v1.1.1, v2.1, v1.1.2.2) (i + 5) else none) else rec (v1.1.1, v2.1, v1.1.2.2) (i + 5)) else none)
theorem lc_55 {X : vjX} {A : Nat → Prop} {Q : State → Prop} {cy : Nat → ClassId} {adc adm : Nat → Nat} {E : Nat → Nat → Nat} {G : va_G} {Z : vZ} {sa : Nat → Nat} {sc sq : Nat} {xs : Nat → Int32} (zk : Zk Z E) (zy : Zy Z E sa) (zs : ZS Z E) (zE : ZE Z) (zp : ZP Z) (zd : ZD Z E) (hst : X.2.1.stackTraces = false) (hZ : Zx Z X (YL cy adc adm E G A 9 Q)) (sx : SX X A sc sq xs) (hL : sq ≤ 2560) (C : Cx X (YL cy adc adm E G A 9 Q) cL_law RL (some .boolean) room_1 (tyL cy)) (N : Nat) (n : Nat) (rec : SL → Int → Option Unit) (ih : ∀ (σ : SL) (i : Int) (a bb : Nat), rng i → a + n * 1000 ≤ 600000 → bb + n * 13000 ≤ 7200000 → T X (YL cy adc adm E G A 9 Q) (fun (_ : Unit) => ∀ (q : SL) (a bb : Nat), a ≤ 600000 → bb ≤ 7200000 → J X (YL cy adc adm E G A 9 Q) a bb 3734 [] [] q) a bb 28 [(0, .ref sc), (1, .ref (adc 0)), (2, .ref (adm 0)), (3, .ref (adm 11)), (4, .ref (adm 12)), (5, vi i)] [] σ (rec σ i)) (σ : SL) (i : Int) (a bb : Nat) (hi : rng i) (hi0 : 0 ≤ i ∧ i < (sq : Int)) (ha : a + (n + 1) * 1000 ≤ 600000) (hb : bb + (n + 1) * 13000 ≤ 7200000) : T X (YL cy adc adm E G A 9 Q) (fun (_ : Unit) => ∀ (q : SL) (a bb : Nat), a ≤ 600000 → bb ≤ 7200000 → J X (YL cy adc adm E G A 9 Q) a bb 3734 [] [] q) a bb 3495 [(0, .ref sc), (1, .ref (adc 0)), (2, .ref (adm 0)), (3, .ref (adm 11)), (4, .ref (adm 12)), (5, vi i)] [] σ (f_law_55 sq xs N rec σ i) := by
  have hsl : sq ≤ 2147483647 := by omega
  have hsq : rng (sq : Int) := by unfold rng; omega
  unfold f_law_55
  refine T_aload_n (pc := 3495) C dL_law_3495 rfl 1 rfl ?_
  refine T_aload_n (pc := 3496) C dL_law_3496 rfl 3 rfl ?_
  refine T_lh (pc := 3497) zk.1 hZ C [.ref (adc 0), .ref (adm 11)] [] (fun o h9 hw => ct_L_runScript zk zy zs zE hst N σ  hw o h9) kq_111 cm_L_runScript rfl rfl (Nat.le_of_ble_eq_true rfl) ⟨⟨by decide, by decide⟩, by show _ + 1 ≤ room_1.cells; have := rmC1; omega, by show _ + 6 ≤ room_1.slots; have := rmS1; omega⟩ (a' := a + 1) (b' := bb + 6) ⟨rfl, rfl⟩ dL_law_3497 (fun v1 hv1 => ?_)
  refine T_istore (pc := 3500) (L' := [(6, vi v1.2), (0, .ref sc), (1, .ref (adc 0)), (2, .ref (adm 0)), (3, .ref (adm 11)), (4, .ref (adm 12)), (5, vi i)]) C dL_law_3500 (Nat.le_of_ble_eq_true rfl) rfl ?_
  refine T_aload_n (pc := 3502) C dL_law_3502 rfl 3 rfl ?_
  refine T_lmi (pc := 3503) C [] [] (fun o h9 hw => ct_X13_runScript N v1.1.2.1 hw o h9) kq_112 cm_X13_runScript rcm rfl rfl (Nat.le_of_ble_eq_true rfl) ⟨⟨by decide, by decide⟩, by show _ + 0 ≤ room_1.cells; have := rmC1; omega, by show _ + 0 ≤ room_1.slots; have := rmS1; omega⟩ (a' := a + 1) (b' := bb + 6) ⟨rfl, rfl⟩ dL_law_3503 (fun v2 hv2 => ?_)
  refine T_istore (pc := 3506) (L' := [(7, vi v2.2), (6, vi v1.2), (0, .ref sc), (1, .ref (adc 0)), (2, .ref (adm 0)), (3, .ref (adm 11)), (4, .ref (adm 12)), (5, vi i)]) C dL_law_3506 (Nat.le_of_ble_eq_true rfl) rfl ?_
  refine T_aload_n (pc := 3508) C dL_law_3508 rfl 4 rfl ?_
  refine T_lmp (pc := 3509) C [] [] (fun o h9 hw => ct_X13_thrown (v1.1.1, v2.1, v1.1.2.2).2.1 hw o h9) kq_2 cm_X13_thrown rcm rfl rfl (Nat.le_of_ble_eq_true rfl) ⟨⟨by decide, by decide⟩, by show _ + 0 ≤ room_1.cells; have := rmC1; omega, by show _ + 0 ≤ room_1.slots; have := rmS1; omega⟩ (a' := a + 1) (b' := bb + 6) ⟨rfl, rfl⟩ dL_law_3509 (fun v3 hv3 => ?_)
  refine T_iload (pc := 3512) C dL_law_3512 1 rfl ?_
  refine T_icmp_eq (pc := 3514) C 3519 dL_law_3514 rfl hv3.1 hv1 (fun c4 => ?_) (fun c4 => ?_)
  · refine T_iload (pc := 3519) C dL_law_3519 1 rfl ?_
    refine T_if_ne (pc := 3521) C 3536 dL_law_3521 rfl hv1 (fun c5 => ?_) (fun c5 => ?_)
    · refine T_goto (pc := 3536) C 3728 dL_law_3536 rfl ?_
      refine T_iinc (pc := 3728) (L' := [(5, vi (i + 5)), (7, vi v2.2), (6, vi v1.2), (0, .ref sc), (1, .ref (adc 0)), (2, .ref (adm 0)), (3, .ref (adm 11)), (4, .ref (adm 12))]) C dL_law_3728 (Nat.le_of_ble_eq_true rfl) 7 rfl rfl ?_
      refine T_goto (pc := 3731) C 28 dL_law_3731 rfl ?_
      refine T_sub (L' := [(0, .ref sc), (1, .ref (adc 0)), (2, .ref (adm 0)), (3, .ref (adm 11)), (4, .ref (adm 12)), (5, vi (i + 5))]) [3, 4, 5, 6, 7, 0] rfl ?_
      exact ih (v1.1.1, v2.1, v1.1.2.2) (i + 5) _ _ (by unfold rng; omega) (stp (c := 1) ha (by decide)) (stp (c := 6) hb (by decide))
    · refine T_aload_n (pc := 3524) C dL_law_3524 rfl 5 rfl ?_
      refine T_iconst (pc := 3525) C dL_law_3525 ?_
      refine T_lald (pc := 3526) C dL_law_3526 (fun o6 => ?_)
      refine T_iload (pc := 3527) C dL_law_3527 0 rfl ?_
      refine T_i2l (pc := 3529) C hv2.1 dL_law_3529 ?_
      refine T_lcmp (pc := 3530) C o6 hv2.1 dL_law_3530 ?_
      refine T_if_eq (pc := 3531) C 3536 dL_law_3531 rfl (lcm_rng _ _) (fun c7 => ?_) (fun c7 => ?_)
      · refine T_goto (pc := 3536) C 3728 dL_law_3536 rfl ?_
        refine T_iinc (pc := 3728) (L' := [(5, vi (i + 5)), (7, vi v2.2), (6, vi v1.2), (0, .ref sc), (1, .ref (adc 0)), (2, .ref (adm 0)), (3, .ref (adm 11)), (4, .ref (adm 12))]) C dL_law_3728 (Nat.le_of_ble_eq_true rfl) 7 rfl rfl ?_
        refine T_goto (pc := 3731) C 28 dL_law_3731 rfl ?_
        refine T_sub (L' := [(0, .ref sc), (1, .ref (adc 0)), (2, .ref (adm 0)), (3, .ref (adm 11)), (4, .ref (adm 12)), (5, vi (i + 5))]) [3, 4, 5, 6, 7, 0] rfl ?_
        exact ih (v1.1.1, v2.1, v1.1.2.2) (i + 5) _ _ (by unfold rng; omega) (stp (c := 1) ha (by decide)) (stp (c := 6) hb (by decide))
      · refine T_iconst (pc := 3534) C dL_law_3534 ?_
        exact T_none
  · refine T_iconst (pc := 3517) C dL_law_3517 ?_
    exact T_none
