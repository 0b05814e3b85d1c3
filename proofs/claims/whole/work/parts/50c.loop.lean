/-! the law's loop, cases 16 and on -/
noncomputable def f_law_16 (sq : Nat) (xs : Nat → Int32) (N : Nat) (rec : SL → Int → Option Unit) (σ : SL) (i : Int) : Option Unit :=
  if 0 ≤ (i + 1) ∧ (i + 1) < (sq : Int) then (f_L_transferMinutes N σ (scv xs (i + 1))).bind fun v2 => (f_X13_transferMinutes v2.1.2.1 (scv xs (i + 1))).bind fun v3 => (f_X13_thrown (v2.1.1, v3.1, v2.1.2.2).2.1).bind fun v4 => (if v4 = v2.2 then (if v2.2 = 0 then (if (lcm ((v2.1.1, v3.1, v2.1.2.2).2.2.1) v3.2) = 0 then rec (v2.1.1, v3.1, v2.1.2.2) (i + 5) else none) else rec (v2.1.1, v3.1, v2.1.2.2) (i + 5)) else none) else none
theorem lc_16 {X : vjX} {A : Nat → Prop} {Q : State → Prop} {cy : Nat → ClassId} {adc adm : Nat → Nat} {E : Nat → Nat → Nat} {G : va_G} {Z : vZ} {sa : Nat → Nat} {sc sq : Nat} {xs : Nat → Int32} (zk : Zk Z E) (zy : Zy Z E sa) (zs : ZS Z E) (zE : ZE Z) (zp : ZP Z) (zd : ZD Z E) (hst : X.2.1.stackTraces = false) (hZ : Zx Z X (YL cy adc adm E G A 9 Q)) (sx : SX X A sc sq xs) (hL : sq ≤ 2560) (C : Cx X (YL cy adc adm E G A 9 Q) cL_law RL (some .boolean) room_1 (tyL cy)) (N : Nat) (n : Nat) (rec : SL → Int → Option Unit) (ih : ∀ (σ : SL) (i : Int) (a bb : Nat), rng i → a + n * 1000 ≤ 600000 → bb + n * 13000 ≤ 7200000 → T X (YL cy adc adm E G A 9 Q) (fun (_ : Unit) => ∀ (q : SL) (a bb : Nat), a ≤ 600000 → bb ≤ 7200000 → J X (YL cy adc adm E G A 9 Q) a bb 3734 [] [] q) a bb 28 [(0, .ref sc), (1, .ref (adc 0)), (2, .ref (adm 0)), (3, .ref (adm 11)), (4, .ref (adm 12)), (5, vi i)] [] σ (rec σ i)) (σ : SL) (i : Int) (a bb : Nat) (hi : rng i) (hi0 : 0 ≤ i ∧ i < (sq : Int)) (ha : a + (n + 1) * 1000 ≤ 600000) (hb : bb + (n + 1) * 13000 ≤ 7200000) : T X (YL cy adc adm E G A 9 Q) (fun (_ : Unit) => ∀ (q : SL) (a bb : Nat), a ≤ 600000 → bb ≤ 7200000 → J X (YL cy adc adm E G A 9 Q) a bb 3734 [] [] q) a bb 1258 [(0, .ref sc), (1, .ref (adc 0)), (2, .ref (adm 0)), (3, .ref (adm 11)), (4, .ref (adm 12)), (5, vi i)] [] σ (f_law_16 sq xs N rec σ i) := by
  have hsl : sq ≤ 2147483647 := by omega
  have hsq : rng (sq : Int) := by unfold rng; omega
  unfold f_law_16
  refine T_aload_n (pc := 1258) C dL_law_1258 rfl 1 rfl ?_
  refine T_aload_n (pc := 1259) C dL_law_1259 rfl 0 rfl ?_
  refine T_iload (pc := 1260) C dL_law_1260 5 rfl ?_
  refine T_iconst (pc := 1262) C dL_law_1262 ?_
  refine T_iadd (pc := 1263) C dL_law_1263 ?_
  refine T_guard (fun g1 => ?_)
  refine T_sld sx (pc := 1264) C hsl g1 dL_law_1264 ?_
  refine T_aload_n (pc := 1265) C dL_law_1265 rfl 3 rfl ?_
  refine T_lh (pc := 1266) zk.1 hZ C [.ref (adc 0), vi (scv xs (i + 1)), .ref (adm 11)] [] (fun o h9 hw => ct_L_transferMinutes zk zy zs zE hst N σ (scv xs (i + 1)) (scv_rng _ _) hw o h9) kq_33 cm_L_transferMinutes rfl rfl (Nat.le_of_ble_eq_true rfl) ⟨⟨by decide, by decide⟩, by show _ + 1 ≤ room_1.cells; have := rmC1; omega, by show _ + 6 ≤ room_1.slots; have := rmS1; omega⟩ (a' := a + 1) (b' := bb + 6) ⟨rfl, rfl⟩ dL_law_1266 (fun v2 hv2 => ?_)
  refine T_istore (pc := 1269) (L' := [(6, vi v2.2), (0, .ref sc), (1, .ref (adc 0)), (2, .ref (adm 0)), (3, .ref (adm 11)), (4, .ref (adm 12)), (5, vi i)]) C dL_law_1269 (Nat.le_of_ble_eq_true rfl) rfl ?_
  refine T_aload_n (pc := 1271) C dL_law_1271 rfl 3 rfl ?_
  refine T_aload_n (pc := 1272) C dL_law_1272 rfl 1 rfl ?_
  refine T_iload (pc := 1273) C dL_law_1273 6 rfl ?_
  refine T_iconst (pc := 1275) C dL_law_1275 ?_
  refine T_iadd (pc := 1276) C dL_law_1276 ?_
  refine T_sld sx (pc := 1277) C hsl g1 dL_law_1277 ?_
  refine T_lmi (pc := 1278) C [vi (scv xs (i + 1))] [] (fun o h9 hw => ct_X13_transferMinutes v2.1.2.1 (scv xs (i + 1)) (scv_rng _ _) hw o h9) kq_34 cm_X13_transferMinutes rcm rfl rfl (Nat.le_of_ble_eq_true rfl) ⟨⟨by decide, by decide⟩, by show _ + 0 ≤ room_1.cells; have := rmC1; omega, by show _ + 0 ≤ room_1.slots; have := rmS1; omega⟩ (a' := a + 1) (b' := bb + 6) ⟨rfl, rfl⟩ dL_law_1278 (fun v3 hv3 => ?_)
  refine T_istore (pc := 1281) (L' := [(7, vi v3.2), (6, vi v2.2), (0, .ref sc), (1, .ref (adc 0)), (2, .ref (adm 0)), (3, .ref (adm 11)), (4, .ref (adm 12)), (5, vi i)]) C dL_law_1281 (Nat.le_of_ble_eq_true rfl) rfl ?_
  refine T_aload_n (pc := 1283) C dL_law_1283 rfl 4 rfl ?_
  refine T_lmp (pc := 1284) C [] [] (fun o h9 hw => ct_X13_thrown (v2.1.1, v3.1, v2.1.2.2).2.1 hw o h9) kq_2 cm_X13_thrown rcm rfl rfl (Nat.le_of_ble_eq_true rfl) ⟨⟨by decide, by decide⟩, by show _ + 0 ≤ room_1.cells; have := rmC1; omega, by show _ + 0 ≤ room_1.slots; have := rmS1; omega⟩ (a' := a + 1) (b' := bb + 6) ⟨rfl, rfl⟩ dL_law_1284 (fun v4 hv4 => ?_)
  refine T_iload (pc := 1287) C dL_law_1287 1 rfl ?_
  refine T_icmp_eq (pc := 1289) C 1294 dL_law_1289 rfl hv4.1 hv2 (fun c5 => ?_) (fun c5 => ?_)
  · refine T_iload (pc := 1294) C dL_law_1294 1 rfl ?_
    refine T_if_ne (pc := 1296) C 1311 dL_law_1296 rfl hv2 (fun c6 => ?_) (fun c6 => ?_)
    · refine T_goto (pc := 1311) C 3728 dL_law_1311 rfl ?_
      refine T_iinc (pc := 3728) (L' := [(5, vi (i + 5)), (7, vi v3.2), (6, vi v2.2), (0, .ref sc), (1, .ref (adc 0)), (2, .ref (adm 0)), (3, .ref (adm 11)), (4, .ref (adm 12))]) C dL_law_3728 (Nat.le_of_ble_eq_true rfl) 7 rfl rfl ?_
      refine T_goto (pc := 3731) C 28 dL_law_3731 rfl ?_
      refine T_sub (L' := [(0, .ref sc), (1, .ref (adc 0)), (2, .ref (adm 0)), (3, .ref (adm 11)), (4, .ref (adm 12)), (5, vi (i + 5))]) [3, 4, 5, 6, 7, 0] rfl ?_
      exact ih (v2.1.1, v3.1, v2.1.2.2) (i + 5) _ _ (by unfold rng; omega) (stp (c := 1) ha (by decide)) (stp (c := 6) hb (by decide))
    · refine T_aload_n (pc := 1299) C dL_law_1299 rfl 5 rfl ?_
      refine T_iconst (pc := 1300) C dL_law_1300 ?_
      refine T_lald (pc := 1301) C dL_law_1301 (fun o7 => ?_)
      refine T_iload (pc := 1302) C dL_law_1302 0 rfl ?_
      refine T_i2l (pc := 1304) C hv3.1 dL_law_1304 ?_
      refine T_lcmp (pc := 1305) C o7 hv3.1 dL_law_1305 ?_
      refine T_if_eq (pc := 1306) C 1311 dL_law_1306 rfl (lcm_rng _ _) (fun c8 => ?_) (fun c8 => ?_)
      · refine T_goto (pc := 1311) C 3728 dL_law_1311 rfl ?_
        refine T_iinc (pc := 3728) (L' := [(5, vi (i + 5)), (7, vi v3.2), (6, vi v2.2), (0, .ref sc), (1, .ref (adc 0)), (2, .ref (adm 0)), (3, .ref (adm 11)), (4, .ref (adm 12))]) C dL_law_3728 (Nat.le_of_ble_eq_true rfl) 7 rfl rfl ?_
        refine T_goto (pc := 3731) C 28 dL_law_3731 rfl ?_
        refine T_sub (L' := [(0, .ref sc), (1, .ref (adc 0)), (2, .ref (adm 0)), (3, .ref (adm 11)), (4, .ref (adm 12)), (5, vi (i + 5))]) [3, 4, 5, 6, 7, 0] rfl ?_
        exact ih (v2.1.1, v3.1, v2.1.2.2) (i + 5) _ _ (by unfold rng; omega) (stp (c := 1) ha (by decide)) (stp (c := 6) hb (by decide))
      · refine T_iconst (pc := 1309) C dL_law_1309 ?_
        exact T_none
  · refine T_iconst (pc := 1292) C dL_law_1292 ?_
    exact T_none
noncomputable def f_law_17 (sq : Nat) (xs : Nat → Int32) (N : Nat) (rec : SL → Int → Option Unit) (σ : SL) (i : Int) : Option Unit :=
  if 0 ≤ (i + 1) ∧ (i + 1) < (sq : Int) then (f_L_isClosed N σ (scv xs (i + 1))).bind fun v2 => (f_X13_isClosed v2.1.2.1 (scv xs (i + 1))).bind fun v3 => (f_X13_thrown (v2.1.1, v3.1, v2.1.2.2).2.1).bind fun v4 => (if v4 = v2.2 then (if v2.2 = 0 then (if v3.2 = 0 then (if (lcm ((v2.1.1, v3.1, v2.1.2.2).2.2.1) 0) = 0 then rec (v2.1.1, v3.1, v2.1.2.2) (i + 5) else none) else (if (lcm ((v2.1.1, v3.1, v2.1.2.2).2.2.1) 1) = 0 then rec (v2.1.1, v3.1, v2.1.2.2) (i + 5) else none)) else rec (v2.1.1, v3.1, v2.1.2.2) (i + 5)) else none) else none
theorem lc_17 {X : vjX} {A : Nat → Prop} {Q : State → Prop} {cy : Nat → ClassId} {adc adm : Nat → Nat} {E : Nat → Nat → Nat} {G : va_G} {Z : vZ} {sa : Nat → Nat} {sc sq : Nat} {xs : Nat → Int32} (zk : Zk Z E) (zy : Zy Z E sa) (zs : ZS Z E) (zE : ZE Z) (zp : ZP Z) (zd : ZD Z E) (hst : X.2.1.stackTraces = false) (hZ : Zx Z X (YL cy adc adm E G A 9 Q)) (sx : SX X A sc sq xs) (hL : sq ≤ 2560) (C : Cx X (YL cy adc adm E G A 9 Q) cL_law RL (some .boolean) room_1 (tyL cy)) (N : Nat) (n : Nat) (rec : SL → Int → Option Unit) (ih : ∀ (σ : SL) (i : Int) (a bb : Nat), rng i → a + n * 1000 ≤ 600000 → bb + n * 13000 ≤ 7200000 → T X (YL cy adc adm E G A 9 Q) (fun (_ : Unit) => ∀ (q : SL) (a bb : Nat), a ≤ 600000 → bb ≤ 7200000 → J X (YL cy adc adm E G A 9 Q) a bb 3734 [] [] q) a bb 28 [(0, .ref sc), (1, .ref (adc 0)), (2, .ref (adm 0)), (3, .ref (adm 11)), (4, .ref (adm 12)), (5, vi i)] [] σ (rec σ i)) (σ : SL) (i : Int) (a bb : Nat) (hi : rng i) (hi0 : 0 ≤ i ∧ i < (sq : Int)) (ha : a + (n + 1) * 1000 ≤ 600000) (hb : bb + (n + 1) * 13000 ≤ 7200000) : T X (YL cy adc adm E G A 9 Q) (fun (_ : Unit) => ∀ (q : SL) (a bb : Nat), a ≤ 600000 → bb ≤ 7200000 → J X (YL cy adc adm E G A 9 Q) a bb 3734 [] [] q) a bb 1314 [(0, .ref sc), (1, .ref (adc 0)), (2, .ref (adm 0)), (3, .ref (adm 11)), (4, .ref (adm 12)), (5, vi i)] [] σ (f_law_17 sq xs N rec σ i) := by
  have hsl : sq ≤ 2147483647 := by omega
  have hsq : rng (sq : Int) := by unfold rng; omega
  unfold f_law_17
  refine T_aload_n (pc := 1314) C dL_law_1314 rfl 1 rfl ?_
  refine T_aload_n (pc := 1315) C dL_law_1315 rfl 0 rfl ?_
  refine T_iload (pc := 1316) C dL_law_1316 5 rfl ?_
  refine T_iconst (pc := 1318) C dL_law_1318 ?_
  refine T_iadd (pc := 1319) C dL_law_1319 ?_
  refine T_guard (fun g1 => ?_)
  refine T_sld sx (pc := 1320) C hsl g1 dL_law_1320 ?_
  refine T_aload_n (pc := 1321) C dL_law_1321 rfl 3 rfl ?_
  refine T_lh (pc := 1322) zk.1 hZ C [.ref (adc 0), vi (scv xs (i + 1)), .ref (adm 11)] [] (fun o h9 hw => ct_L_isClosed zk zy zs zE hst N σ (scv xs (i + 1)) (scv_rng _ _) hw o h9) kq_35 cm_L_isClosed rfl rfl (Nat.le_of_ble_eq_true rfl) ⟨⟨by decide, by decide⟩, by show _ + 1 ≤ room_1.cells; have := rmC1; omega, by show _ + 6 ≤ room_1.slots; have := rmS1; omega⟩ (a' := a + 1) (b' := bb + 6) ⟨rfl, rfl⟩ dL_law_1322 (fun v2 hv2 => ?_)
  refine T_istore (pc := 1325) (L' := [(6, vi v2.2), (0, .ref sc), (1, .ref (adc 0)), (2, .ref (adm 0)), (3, .ref (adm 11)), (4, .ref (adm 12)), (5, vi i)]) C dL_law_1325 (Nat.le_of_ble_eq_true rfl) rfl ?_
  refine T_aload_n (pc := 1327) C dL_law_1327 rfl 3 rfl ?_
  refine T_aload_n (pc := 1328) C dL_law_1328 rfl 1 rfl ?_
  refine T_iload (pc := 1329) C dL_law_1329 6 rfl ?_
  refine T_iconst (pc := 1331) C dL_law_1331 ?_
  refine T_iadd (pc := 1332) C dL_law_1332 ?_
  refine T_sld sx (pc := 1333) C hsl g1 dL_law_1333 ?_
  refine T_lmi (pc := 1334) C [vi (scv xs (i + 1))] [] (fun o h9 hw => ct_X13_isClosed v2.1.2.1 (scv xs (i + 1)) (scv_rng _ _) hw o h9) kq_36 cm_X13_isClosed rcm rfl rfl (Nat.le_of_ble_eq_true rfl) ⟨⟨by decide, by decide⟩, by show _ + 0 ≤ room_1.cells; have := rmC1; omega, by show _ + 0 ≤ room_1.slots; have := rmS1; omega⟩ (a' := a + 1) (b' := bb + 6) ⟨rfl, rfl⟩ dL_law_1334 (fun v3 hv3 => ?_)
  refine T_istore (pc := 1337) (L' := [(7, vi v3.2), (6, vi v2.2), (0, .ref sc), (1, .ref (adc 0)), (2, .ref (adm 0)), (3, .ref (adm 11)), (4, .ref (adm 12)), (5, vi i)]) C dL_law_1337 (Nat.le_of_ble_eq_true rfl) rfl ?_
  refine T_aload_n (pc := 1339) C dL_law_1339 rfl 4 rfl ?_
  refine T_lmp (pc := 1340) C [] [] (fun o h9 hw => ct_X13_thrown (v2.1.1, v3.1, v2.1.2.2).2.1 hw o h9) kq_2 cm_X13_thrown rcm rfl rfl (Nat.le_of_ble_eq_true rfl) ⟨⟨by decide, by decide⟩, by show _ + 0 ≤ room_1.cells; have := rmC1; omega, by show _ + 0 ≤ room_1.slots; have := rmS1; omega⟩ (a' := a + 1) (b' := bb + 6) ⟨rfl, rfl⟩ dL_law_1340 (fun v4 hv4 => ?_)
  refine T_iload (pc := 1343) C dL_law_1343 1 rfl ?_
  refine T_icmp_eq (pc := 1345) C 1350 dL_law_1345 rfl hv4.1 hv2 (fun c5 => ?_) (fun c5 => ?_)
  · refine T_iload (pc := 1350) C dL_law_1350 1 rfl ?_
    refine T_if_ne (pc := 1352) C 1374 dL_law_1352 rfl hv2 (fun c6 => ?_) (fun c6 => ?_)
    · refine T_goto (pc := 1374) C 3728 dL_law_1374 rfl ?_
      refine T_iinc (pc := 3728) (L' := [(5, vi (i + 5)), (7, vi v3.2), (6, vi v2.2), (0, .ref sc), (1, .ref (adc 0)), (2, .ref (adm 0)), (3, .ref (adm 11)), (4, .ref (adm 12))]) C dL_law_3728 (Nat.le_of_ble_eq_true rfl) 7 rfl rfl ?_
      refine T_goto (pc := 3731) C 28 dL_law_3731 rfl ?_
      refine T_sub (L' := [(0, .ref sc), (1, .ref (adc 0)), (2, .ref (adm 0)), (3, .ref (adm 11)), (4, .ref (adm 12)), (5, vi (i + 5))]) [3, 4, 5, 6, 7, 0] rfl ?_
      exact ih (v2.1.1, v3.1, v2.1.2.2) (i + 5) _ _ (by unfold rng; omega) (stp (c := 1) ha (by decide)) (stp (c := 6) hb (by decide))
    · refine T_aload_n (pc := 1355) C dL_law_1355 rfl 5 rfl ?_
      refine T_iconst (pc := 1356) C dL_law_1356 ?_
      refine T_lald (pc := 1357) C dL_law_1357 (fun o7 => ?_)
      refine T_iload (pc := 1358) C dL_law_1358 0 rfl ?_
      refine T_if_eq (pc := 1360) C 1367 dL_law_1360 rfl hv3.1 (fun c8 => ?_) (fun c8 => ?_)
      · refine T_lconst (pc := 1367) C 0 rfl dL_law_1367 ?_
        refine T_lcmp (pc := 1368) C o7 (rngL rfl) dL_law_1368 ?_
        refine T_if_eq (pc := 1369) C 1374 dL_law_1369 rfl (lcm_rng _ _) (fun c9 => ?_) (fun c9 => ?_)
        · refine T_goto (pc := 1374) C 3728 dL_law_1374 rfl ?_
          refine T_iinc (pc := 3728) (L' := [(5, vi (i + 5)), (7, vi v3.2), (6, vi v2.2), (0, .ref sc), (1, .ref (adc 0)), (2, .ref (adm 0)), (3, .ref (adm 11)), (4, .ref (adm 12))]) C dL_law_3728 (Nat.le_of_ble_eq_true rfl) 7 rfl rfl ?_
          refine T_goto (pc := 3731) C 28 dL_law_3731 rfl ?_
          refine T_sub (L' := [(0, .ref sc), (1, .ref (adc 0)), (2, .ref (adm 0)), (3, .ref (adm 11)), (4, .ref (adm 12)), (5, vi (i + 5))]) [3, 4, 5, 6, 7, 0] rfl ?_
          exact ih (v2.1.1, v3.1, v2.1.2.2) (i + 5) _ _ (by unfold rng; omega) (stp (c := 1) ha (by decide)) (stp (c := 6) hb (by decide))
        · refine T_iconst (pc := 1372) C dL_law_1372 ?_
          exact T_none
      · refine T_lconst (pc := 1363) C 1 rfl dL_law_1363 ?_
        refine T_goto (pc := 1364) C 1368 dL_law_1364 rfl ?_
        refine T_lcmp (pc := 1368) C o7 (rngL rfl) dL_law_1368 ?_
        refine T_if_eq (pc := 1369) C 1374 dL_law_1369 rfl (lcm_rng _ _) (fun c10 => ?_) (fun c10 => ?_)
        · refine T_goto (pc := 1374) C 3728 dL_law_1374 rfl ?_
          refine T_iinc (pc := 3728) (L' := [(5, vi (i + 5)), (7, vi v3.2), (6, vi v2.2), (0, .ref sc), (1, .ref (adc 0)), (2, .ref (adm 0)), (3, .ref (adm 11)), (4, .ref (adm 12))]) C dL_law_3728 (Nat.le_of_ble_eq_true rfl) 7 rfl rfl ?_
          refine T_goto (pc := 3731) C 28 dL_law_3731 rfl ?_
          refine T_sub (L' := [(0, .ref sc), (1, .ref (adc 0)), (2, .ref (adm 0)), (3, .ref (adm 11)), (4, .ref (adm 12)), (5, vi (i + 5))]) [3, 4, 5, 6, 7, 0] rfl ?_
          exact ih (v2.1.1, v3.1, v2.1.2.2) (i + 5) _ _ (by unfold rng; omega) (stp (c := 1) ha (by decide)) (stp (c := 6) hb (by decide))
        · refine T_iconst (pc := 1372) C dL_law_1372 ?_
          exact T_none
  · refine T_iconst (pc := 1348) C dL_law_1348 ?_
    exact T_none
noncomputable def f_law_18 (sq : Nat) (xs : Nat → Int32) (N : Nat) (rec : SL → Int → Option Unit) (σ : SL) (i : Int) : Option Unit :=
  if 0 ≤ (i + 1) ∧ (i + 1) < (sq : Int) then if 0 ≤ (i + 2) ∧ (i + 2) < (sq : Int) then (f_L_walkMinutes N σ (scv xs (i + 1)) (scv xs (i + 2))).bind fun v3 => (f_X13_walkMinutes v3.1.2.1 (scv xs (i + 1)) (scv xs (i + 2))).bind fun v4 => (f_X13_thrown (v3.1.1, v4.1, v3.1.2.2).2.1).bind fun v5 => (if v5 = v3.2 then (if v3.2 = 0 then (if (lcm ((v3.1.1, v4.1, v3.1.2.2).2.2.1) v4.2) = 0 then rec (v3.1.1, v4.1, v3.1.2.2) (i + 5) else none) else rec (v3.1.1, v4.1, v3.1.2.2) (i + 5)) else none) else none else none
theorem lc_18 {X : vjX} {A : Nat → Prop} {Q : State → Prop} {cy : Nat → ClassId} {adc adm : Nat → Nat} {E : Nat → Nat → Nat} {G : va_G} {Z : vZ} {sa : Nat → Nat} {sc sq : Nat} {xs : Nat → Int32} (zk : Zk Z E) (zy : Zy Z E sa) (zs : ZS Z E) (zE : ZE Z) (zp : ZP Z) (zd : ZD Z E) (hst : X.2.1.stackTraces = false) (hZ : Zx Z X (YL cy adc adm E G A 9 Q)) (sx : SX X A sc sq xs) (hL : sq ≤ 2560) (C : Cx X (YL cy adc adm E G A 9 Q) cL_law RL (some .boolean) room_1 (tyL cy)) (N : Nat) (n : Nat) (rec : SL → Int → Option Unit) (ih : ∀ (σ : SL) (i : Int) (a bb : Nat), rng i → a + n * 1000 ≤ 600000 → bb + n * 13000 ≤ 7200000 → T X (YL cy adc adm E G A 9 Q) (fun (_ : Unit) => ∀ (q : SL) (a bb : Nat), a ≤ 600000 → bb ≤ 7200000 → J X (YL cy adc adm E G A 9 Q) a bb 3734 [] [] q) a bb 28 [(0, .ref sc), (1, .ref (adc 0)), (2, .ref (adm 0)), (3, .ref (adm 11)), (4, .ref (adm 12)), (5, vi i)] [] σ (rec σ i)) (σ : SL) (i : Int) (a bb : Nat) (hi : rng i) (hi0 : 0 ≤ i ∧ i < (sq : Int)) (ha : a + (n + 1) * 1000 ≤ 600000) (hb : bb + (n + 1) * 13000 ≤ 7200000) : T X (YL cy adc adm E G A 9 Q) (fun (_ : Unit) => ∀ (q : SL) (a bb : Nat), a ≤ 600000 → bb ≤ 7200000 → J X (YL cy adc adm E G A 9 Q) a bb 3734 [] [] q) a bb 1377 [(0, .ref sc), (1, .ref (adc 0)), (2, .ref (adm 0)), (3, .ref (adm 11)), (4, .ref (adm 12)), (5, vi i)] [] σ (f_law_18 sq xs N rec σ i) := by
  have hsl : sq ≤ 2147483647 := by omega
  have hsq : rng (sq : Int) := by unfold rng; omega
  unfold f_law_18
  refine T_aload_n (pc := 1377) C dL_law_1377 rfl 1 rfl ?_
  refine T_aload_n (pc := 1378) C dL_law_1378 rfl 0 rfl ?_
  refine T_iload (pc := 1379) C dL_law_1379 5 rfl ?_
  refine T_iconst (pc := 1381) C dL_law_1381 ?_
  refine T_iadd (pc := 1382) C dL_law_1382 ?_
  refine T_guard (fun g1 => ?_)
  refine T_sld sx (pc := 1383) C hsl g1 dL_law_1383 ?_
  refine T_aload_n (pc := 1384) C dL_law_1384 rfl 0 rfl ?_
  refine T_iload (pc := 1385) C dL_law_1385 5 rfl ?_
  refine T_iconst (pc := 1387) C dL_law_1387 ?_
  refine T_iadd (pc := 1388) C dL_law_1388 ?_
  refine T_guard (fun g2 => ?_)
  refine T_sld sx (pc := 1389) C hsl g2 dL_law_1389 ?_
  refine T_aload_n (pc := 1390) C dL_law_1390 rfl 3 rfl ?_
  refine T_lh (pc := 1391) zk.1 hZ C [.ref (adc 0), vi (scv xs (i + 1)), vi (scv xs (i + 2)), .ref (adm 11)] [] (fun o h9 hw => ct_L_walkMinutes zk zy zs zE hst N σ (scv xs (i + 1)) (scv xs (i + 2)) (scv_rng _ _) (scv_rng _ _) hw o h9) kq_37 cm_L_walkMinutes rfl rfl (Nat.le_of_ble_eq_true rfl) ⟨⟨by decide, by decide⟩, by show _ + 1 ≤ room_1.cells; have := rmC1; omega, by show _ + 6 ≤ room_1.slots; have := rmS1; omega⟩ (a' := a + 1) (b' := bb + 6) ⟨rfl, rfl⟩ dL_law_1391 (fun v3 hv3 => ?_)
  refine T_istore (pc := 1394) (L' := [(6, vi v3.2), (0, .ref sc), (1, .ref (adc 0)), (2, .ref (adm 0)), (3, .ref (adm 11)), (4, .ref (adm 12)), (5, vi i)]) C dL_law_1394 (Nat.le_of_ble_eq_true rfl) rfl ?_
  refine T_aload_n (pc := 1396) C dL_law_1396 rfl 3 rfl ?_
  refine T_aload_n (pc := 1397) C dL_law_1397 rfl 1 rfl ?_
  refine T_iload (pc := 1398) C dL_law_1398 6 rfl ?_
  refine T_iconst (pc := 1400) C dL_law_1400 ?_
  refine T_iadd (pc := 1401) C dL_law_1401 ?_
  refine T_sld sx (pc := 1402) C hsl g1 dL_law_1402 ?_
  refine T_aload_n (pc := 1403) C dL_law_1403 rfl 1 rfl ?_
  refine T_iload (pc := 1404) C dL_law_1404 6 rfl ?_
  refine T_iconst (pc := 1406) C dL_law_1406 ?_
  refine T_iadd (pc := 1407) C dL_law_1407 ?_
  refine T_sld sx (pc := 1408) C hsl g2 dL_law_1408 ?_
  refine T_lmi (pc := 1409) C [vi (scv xs (i + 1)), vi (scv xs (i + 2))] [] (fun o h9 hw => ct_X13_walkMinutes v3.1.2.1 (scv xs (i + 1)) (scv xs (i + 2)) (scv_rng _ _) (scv_rng _ _) hw o h9) kq_38 cm_X13_walkMinutes rcm rfl rfl (Nat.le_of_ble_eq_true rfl) ⟨⟨by decide, by decide⟩, by show _ + 0 ≤ room_1.cells; have := rmC1; omega, by show _ + 0 ≤ room_1.slots; have := rmS1; omega⟩ (a' := a + 1) (b' := bb + 6) ⟨rfl, rfl⟩ dL_law_1409 (fun v4 hv4 => ?_)
  refine T_istore (pc := 1412) (L' := [(7, vi v4.2), (6, vi v3.2), (0, .ref sc), (1, .ref (adc 0)), (2, .ref (adm 0)), (3, .ref (adm 11)), (4, .ref (adm 12)), (5, vi i)]) C dL_law_1412 (Nat.le_of_ble_eq_true rfl) rfl ?_
  refine T_aload_n (pc := 1414) C dL_law_1414 rfl 4 rfl ?_
  refine T_lmp (pc := 1415) C [] [] (fun o h9 hw => ct_X13_thrown (v3.1.1, v4.1, v3.1.2.2).2.1 hw o h9) kq_2 cm_X13_thrown rcm rfl rfl (Nat.le_of_ble_eq_true rfl) ⟨⟨by decide, by decide⟩, by show _ + 0 ≤ room_1.cells; have := rmC1; omega, by show _ + 0 ≤ room_1.slots; have := rmS1; omega⟩ (a' := a + 1) (b' := bb + 6) ⟨rfl, rfl⟩ dL_law_1415 (fun v5 hv5 => ?_)
  refine T_iload (pc := 1418) C dL_law_1418 1 rfl ?_
  refine T_icmp_eq (pc := 1420) C 1425 dL_law_1420 rfl hv5.1 hv3 (fun c6 => ?_) (fun c6 => ?_)
  · refine T_iload (pc := 1425) C dL_law_1425 1 rfl ?_
    refine T_if_ne (pc := 1427) C 1442 dL_law_1427 rfl hv3 (fun c7 => ?_) (fun c7 => ?_)
    · refine T_goto (pc := 1442) C 3728 dL_law_1442 rfl ?_
      refine T_iinc (pc := 3728) (L' := [(5, vi (i + 5)), (7, vi v4.2), (6, vi v3.2), (0, .ref sc), (1, .ref (adc 0)), (2, .ref (adm 0)), (3, .ref (adm 11)), (4, .ref (adm 12))]) C dL_law_3728 (Nat.le_of_ble_eq_true rfl) 7 rfl rfl ?_
      refine T_goto (pc := 3731) C 28 dL_law_3731 rfl ?_
      refine T_sub (L' := [(0, .ref sc), (1, .ref (adc 0)), (2, .ref (adm 0)), (3, .ref (adm 11)), (4, .ref (adm 12)), (5, vi (i + 5))]) [3, 4, 5, 6, 7, 0] rfl ?_
      exact ih (v3.1.1, v4.1, v3.1.2.2) (i + 5) _ _ (by unfold rng; omega) (stp (c := 1) ha (by decide)) (stp (c := 6) hb (by decide))
    · refine T_aload_n (pc := 1430) C dL_law_1430 rfl 5 rfl ?_
      refine T_iconst (pc := 1431) C dL_law_1431 ?_
      refine T_lald (pc := 1432) C dL_law_1432 (fun o8 => ?_)
      refine T_iload (pc := 1433) C dL_law_1433 0 rfl ?_
      refine T_i2l (pc := 1435) C hv4.1 dL_law_1435 ?_
      refine T_lcmp (pc := 1436) C o8 hv4.1 dL_law_1436 ?_
      refine T_if_eq (pc := 1437) C 1442 dL_law_1437 rfl (lcm_rng _ _) (fun c9 => ?_) (fun c9 => ?_)
      · refine T_goto (pc := 1442) C 3728 dL_law_1442 rfl ?_
        refine T_iinc (pc := 3728) (L' := [(5, vi (i + 5)), (7, vi v4.2), (6, vi v3.2), (0, .ref sc), (1, .ref (adc 0)), (2, .ref (adm 0)), (3, .ref (adm 11)), (4, .ref (adm 12))]) C dL_law_3728 (Nat.le_of_ble_eq_true rfl) 7 rfl rfl ?_
        refine T_goto (pc := 3731) C 28 dL_law_3731 rfl ?_
        refine T_sub (L' := [(0, .ref sc), (1, .ref (adc 0)), (2, .ref (adm 0)), (3, .ref (adm 11)), (4, .ref (adm 12)), (5, vi (i + 5))]) [3, 4, 5, 6, 7, 0] rfl ?_
        exact ih (v3.1.1, v4.1, v3.1.2.2) (i + 5) _ _ (by unfold rng; omega) (stp (c := 1) ha (by decide)) (stp (c := 6) hb (by decide))
      · refine T_iconst (pc := 1440) C dL_law_1440 ?_
        exact T_none
  · refine T_iconst (pc := 1423) C dL_law_1423 ?_
    exact T_none
noncomputable def f_law_19 (sq : Nat) (xs : Nat → Int32) (N : Nat) (rec : SL → Int → Option Unit) (σ : SL) (i : Int) : Option Unit :=
  (f_X12_lineCount σ.1).bind fun v1 => (f_X13_lineCount σ.2.1).bind fun v2 => (if v1 = v2.2 then rec (σ.1, v2.1, σ.2.2) (i + 5) else none)
theorem lc_19 {X : vjX} {A : Nat → Prop} {Q : State → Prop} {cy : Nat → ClassId} {adc adm : Nat → Nat} {E : Nat → Nat → Nat} {G : va_G} {Z : vZ} {sa : Nat → Nat} {sc sq : Nat} {xs : Nat → Int32} (zk : Zk Z E) (zy : Zy Z E sa) (zs : ZS Z E) (zE : ZE Z) (zp : ZP Z) (zd : ZD Z E) (hst : X.2.1.stackTraces = false) (hZ : Zx Z X (YL cy adc adm E G A 9 Q)) (sx : SX X A sc sq xs) (hL : sq ≤ 2560) (C : Cx X (YL cy adc adm E G A 9 Q) cL_law RL (some .boolean) room_1 (tyL cy)) (N : Nat) (n : Nat) (rec : SL → Int → Option Unit) (ih : ∀ (σ : SL) (i : Int) (a bb : Nat), rng i → a + n * 1000 ≤ 600000 → bb + n * 13000 ≤ 7200000 → T X (YL cy adc adm E G A 9 Q) (fun (_ : Unit) => ∀ (q : SL) (a bb : Nat), a ≤ 600000 → bb ≤ 7200000 → J X (YL cy adc adm E G A 9 Q) a bb 3734 [] [] q) a bb 28 [(0, .ref sc), (1, .ref (adc 0)), (2, .ref (adm 0)), (3, .ref (adm 11)), (4, .ref (adm 12)), (5, vi i)] [] σ (rec σ i)) (σ : SL) (i : Int) (a bb : Nat) (hi : rng i) (hi0 : 0 ≤ i ∧ i < (sq : Int)) (ha : a + (n + 1) * 1000 ≤ 600000) (hb : bb + (n + 1) * 13000 ≤ 7200000) : T X (YL cy adc adm E G A 9 Q) (fun (_ : Unit) => ∀ (q : SL) (a bb : Nat), a ≤ 600000 → bb ≤ 7200000 → J X (YL cy adc adm E G A 9 Q) a bb 3734 [] [] q) a bb 1445 [(0, .ref sc), (1, .ref (adc 0)), (2, .ref (adm 0)), (3, .ref (adm 11)), (4, .ref (adm 12)), (5, vi i)] [] σ (f_law_19 sq xs N rec σ i) := by
  have hsl : sq ≤ 2147483647 := by omega
  have hsq : rng (sq : Int) := by unfold rng; omega
  unfold f_law_19
  refine T_aload_n (pc := 1445) C dL_law_1445 rfl 1 rfl ?_
  refine T_lzp (pc := 1446) zk.1 hZ C [] [] (fun o h9 hw => ct_X12_lineCount zk zy σ.1 hw o h9) kq_39 cm_X12_lineCount (rcc (rfl : kd 0 = 12) (by decide) (fun _ => rfl) rfl) rfl rfl (Nat.le_of_ble_eq_true rfl) ⟨⟨by decide, by decide⟩, by show _ + 0 ≤ room_1.cells; have := rmC1; omega, by show _ + 0 ≤ room_1.slots; have := rmS1; omega⟩ (a' := a + 0) (b' := bb + 0) ⟨rfl, rfl⟩ dL_law_1446 (fun v1 hv1 => ?_)
  refine T_aload_n (pc := 1449) C dL_law_1449 rfl 2 rfl ?_
  refine T_lmi (pc := 1450) C [] [vi v1] (fun o h9 hw => ct_X13_lineCount σ.2.1 hw o h9) kq_40 cm_X13_lineCount rcm rfl rfl (Nat.le_of_ble_eq_true rfl) ⟨⟨by decide, by decide⟩, by show _ + 0 ≤ room_1.cells; have := rmC1; omega, by show _ + 0 ≤ room_1.slots; have := rmS1; omega⟩ (a' := a + 0) (b' := bb + 0) ⟨rfl, rfl⟩ dL_law_1450 (fun v2 hv2 => ?_)
  refine T_icmp_eq (pc := 1453) C 3728 dL_law_1453 rfl hv1.1 hv2.1 (fun c3 => ?_) (fun c3 => ?_)
  · refine T_iinc (pc := 3728) (L' := [(5, vi (i + 5)), (0, .ref sc), (1, .ref (adc 0)), (2, .ref (adm 0)), (3, .ref (adm 11)), (4, .ref (adm 12))]) C dL_law_3728 (Nat.le_of_ble_eq_true rfl) 5 rfl rfl ?_
    refine T_goto (pc := 3731) C 28 dL_law_3731 rfl ?_
    refine T_sub (L' := [(0, .ref sc), (1, .ref (adc 0)), (2, .ref (adm 0)), (3, .ref (adm 11)), (4, .ref (adm 12)), (5, vi (i + 5))]) [1, 2, 3, 4, 5, 0] rfl ?_
    exact ih (σ.1, v2.1, σ.2.2) (i + 5) _ _ (by unfold rng; omega) (stp (c := 0) ha (by decide)) (stp (c := 0) hb (by decide))
  · refine T_iconst (pc := 1456) C dL_law_1456 ?_
    exact T_none
noncomputable def f_law_20 (sq : Nat) (xs : Nat → Int32) (N : Nat) (rec : SL → Int → Option Unit) (σ : SL) (i : Int) : Option Unit :=
  if 0 ≤ (i + 1) ∧ (i + 1) < (sq : Int) then (f_L_ringSize N σ (scv xs (i + 1))).bind fun v2 => (f_X13_ringSize v2.1.2.1 (scv xs (i + 1))).bind fun v3 => (f_X13_thrown (v2.1.1, v3.1, v2.1.2.2).2.1).bind fun v4 => (if v4 = v2.2 then (if v2.2 = 0 then (if (lcm ((v2.1.1, v3.1, v2.1.2.2).2.2.1) v3.2) = 0 then rec (v2.1.1, v3.1, v2.1.2.2) (i + 5) else none) else rec (v2.1.1, v3.1, v2.1.2.2) (i + 5)) else none) else none
theorem lc_20 {X : vjX} {A : Nat → Prop} {Q : State → Prop} {cy : Nat → ClassId} {adc adm : Nat → Nat} {E : Nat → Nat → Nat} {G : va_G} {Z : vZ} {sa : Nat → Nat} {sc sq : Nat} {xs : Nat → Int32} (zk : Zk Z E) (zy : Zy Z E sa) (zs : ZS Z E) (zE : ZE Z) (zp : ZP Z) (zd : ZD Z E) (hst : X.2.1.stackTraces = false) (hZ : Zx Z X (YL cy adc adm E G A 9 Q)) (sx : SX X A sc sq xs) (hL : sq ≤ 2560) (C : Cx X (YL cy adc adm E G A 9 Q) cL_law RL (some .boolean) room_1 (tyL cy)) (N : Nat) (n : Nat) (rec : SL → Int → Option Unit) (ih : ∀ (σ : SL) (i : Int) (a bb : Nat), rng i → a + n * 1000 ≤ 600000 → bb + n * 13000 ≤ 7200000 → T X (YL cy adc adm E G A 9 Q) (fun (_ : Unit) => ∀ (q : SL) (a bb : Nat), a ≤ 600000 → bb ≤ 7200000 → J X (YL cy adc adm E G A 9 Q) a bb 3734 [] [] q) a bb 28 [(0, .ref sc), (1, .ref (adc 0)), (2, .ref (adm 0)), (3, .ref (adm 11)), (4, .ref (adm 12)), (5, vi i)] [] σ (rec σ i)) (σ : SL) (i : Int) (a bb : Nat) (hi : rng i) (hi0 : 0 ≤ i ∧ i < (sq : Int)) (ha : a + (n + 1) * 1000 ≤ 600000) (hb : bb + (n + 1) * 13000 ≤ 7200000) : T X (YL cy adc adm E G A 9 Q) (fun (_ : Unit) => ∀ (q : SL) (a bb : Nat), a ≤ 600000 → bb ≤ 7200000 → J X (YL cy adc adm E G A 9 Q) a bb 3734 [] [] q) a bb 1458 [(0, .ref sc), (1, .ref (adc 0)), (2, .ref (adm 0)), (3, .ref (adm 11)), (4, .ref (adm 12)), (5, vi i)] [] σ (f_law_20 sq xs N rec σ i) := by
  have hsl : sq ≤ 2147483647 := by omega
  have hsq : rng (sq : Int) := by unfold rng; omega
  unfold f_law_20
  refine T_aload_n (pc := 1458) C dL_law_1458 rfl 1 rfl ?_
  refine T_aload_n (pc := 1459) C dL_law_1459 rfl 0 rfl ?_
  refine T_iload (pc := 1460) C dL_law_1460 5 rfl ?_
  refine T_iconst (pc := 1462) C dL_law_1462 ?_
  refine T_iadd (pc := 1463) C dL_law_1463 ?_
  refine T_guard (fun g1 => ?_)
  refine T_sld sx (pc := 1464) C hsl g1 dL_law_1464 ?_
  refine T_aload_n (pc := 1465) C dL_law_1465 rfl 3 rfl ?_
  refine T_lh (pc := 1466) zk.1 hZ C [.ref (adc 0), vi (scv xs (i + 1)), .ref (adm 11)] [] (fun o h9 hw => ct_L_ringSize zk zy zs zE hst N σ (scv xs (i + 1)) (scv_rng _ _) hw o h9) kq_41 cm_L_ringSize rfl rfl (Nat.le_of_ble_eq_true rfl) ⟨⟨by decide, by decide⟩, by show _ + 1 ≤ room_1.cells; have := rmC1; omega, by show _ + 6 ≤ room_1.slots; have := rmS1; omega⟩ (a' := a + 1) (b' := bb + 6) ⟨rfl, rfl⟩ dL_law_1466 (fun v2 hv2 => ?_)
  refine T_istore (pc := 1469) (L' := [(6, vi v2.2), (0, .ref sc), (1, .ref (adc 0)), (2, .ref (adm 0)), (3, .ref (adm 11)), (4, .ref (adm 12)), (5, vi i)]) C dL_law_1469 (Nat.le_of_ble_eq_true rfl) rfl ?_
  refine T_aload_n (pc := 1471) C dL_law_1471 rfl 3 rfl ?_
  refine T_aload_n (pc := 1472) C dL_law_1472 rfl 1 rfl ?_
  refine T_iload (pc := 1473) C dL_law_1473 6 rfl ?_
  refine T_iconst (pc := 1475) C dL_law_1475 ?_
  refine T_iadd (pc := 1476) C dL_law_1476 ?_
  refine T_sld sx (pc := 1477) C hsl g1 dL_law_1477 ?_
  refine T_lmi (pc := 1478) C [vi (scv xs (i + 1))] [] (fun o h9 hw => ct_X13_ringSize v2.1.2.1 (scv xs (i + 1)) (scv_rng _ _) hw o h9) kq_42 cm_X13_ringSize rcm rfl rfl (Nat.le_of_ble_eq_true rfl) ⟨⟨by decide, by decide⟩, by show _ + 0 ≤ room_1.cells; have := rmC1; omega, by show _ + 0 ≤ room_1.slots; have := rmS1; omega⟩ (a' := a + 1) (b' := bb + 6) ⟨rfl, rfl⟩ dL_law_1478 (fun v3 hv3 => ?_)
  refine T_istore (pc := 1481) (L' := [(7, vi v3.2), (6, vi v2.2), (0, .ref sc), (1, .ref (adc 0)), (2, .ref (adm 0)), (3, .ref (adm 11)), (4, .ref (adm 12)), (5, vi i)]) C dL_law_1481 (Nat.le_of_ble_eq_true rfl) rfl ?_
  refine T_aload_n (pc := 1483) C dL_law_1483 rfl 4 rfl ?_
  refine T_lmp (pc := 1484) C [] [] (fun o h9 hw => ct_X13_thrown (v2.1.1, v3.1, v2.1.2.2).2.1 hw o h9) kq_2 cm_X13_thrown rcm rfl rfl (Nat.le_of_ble_eq_true rfl) ⟨⟨by decide, by decide⟩, by show _ + 0 ≤ room_1.cells; have := rmC1; omega, by show _ + 0 ≤ room_1.slots; have := rmS1; omega⟩ (a' := a + 1) (b' := bb + 6) ⟨rfl, rfl⟩ dL_law_1484 (fun v4 hv4 => ?_)
  refine T_iload (pc := 1487) C dL_law_1487 1 rfl ?_
  refine T_icmp_eq (pc := 1489) C 1494 dL_law_1489 rfl hv4.1 hv2 (fun c5 => ?_) (fun c5 => ?_)
  · refine T_iload (pc := 1494) C dL_law_1494 1 rfl ?_
    refine T_if_ne (pc := 1496) C 1511 dL_law_1496 rfl hv2 (fun c6 => ?_) (fun c6 => ?_)
    · refine T_goto (pc := 1511) C 3728 dL_law_1511 rfl ?_
      refine T_iinc (pc := 3728) (L' := [(5, vi (i + 5)), (7, vi v3.2), (6, vi v2.2), (0, .ref sc), (1, .ref (adc 0)), (2, .ref (adm 0)), (3, .ref (adm 11)), (4, .ref (adm 12))]) C dL_law_3728 (Nat.le_of_ble_eq_true rfl) 7 rfl rfl ?_
      refine T_goto (pc := 3731) C 28 dL_law_3731 rfl ?_
      refine T_sub (L' := [(0, .ref sc), (1, .ref (adc 0)), (2, .ref (adm 0)), (3, .ref (adm 11)), (4, .ref (adm 12)), (5, vi (i + 5))]) [3, 4, 5, 6, 7, 0] rfl ?_
      exact ih (v2.1.1, v3.1, v2.1.2.2) (i + 5) _ _ (by unfold rng; omega) (stp (c := 1) ha (by decide)) (stp (c := 6) hb (by decide))
    · refine T_aload_n (pc := 1499) C dL_law_1499 rfl 5 rfl ?_
      refine T_iconst (pc := 1500) C dL_law_1500 ?_
      refine T_lald (pc := 1501) C dL_law_1501 (fun o7 => ?_)
      refine T_iload (pc := 1502) C dL_law_1502 0 rfl ?_
      refine T_i2l (pc := 1504) C hv3.1 dL_law_1504 ?_
      refine T_lcmp (pc := 1505) C o7 hv3.1 dL_law_1505 ?_
      refine T_if_eq (pc := 1506) C 1511 dL_law_1506 rfl (lcm_rng _ _) (fun c8 => ?_) (fun c8 => ?_)
      · refine T_goto (pc := 1511) C 3728 dL_law_1511 rfl ?_
        refine T_iinc (pc := 3728) (L' := [(5, vi (i + 5)), (7, vi v3.2), (6, vi v2.2), (0, .ref sc), (1, .ref (adc 0)), (2, .ref (adm 0)), (3, .ref (adm 11)), (4, .ref (adm 12))]) C dL_law_3728 (Nat.le_of_ble_eq_true rfl) 7 rfl rfl ?_
        refine T_goto (pc := 3731) C 28 dL_law_3731 rfl ?_
        refine T_sub (L' := [(0, .ref sc), (1, .ref (adc 0)), (2, .ref (adm 0)), (3, .ref (adm 11)), (4, .ref (adm 12)), (5, vi (i + 5))]) [3, 4, 5, 6, 7, 0] rfl ?_
        exact ih (v2.1.1, v3.1, v2.1.2.2) (i + 5) _ _ (by unfold rng; omega) (stp (c := 1) ha (by decide)) (stp (c := 6) hb (by decide))
      · refine T_iconst (pc := 1509) C dL_law_1509 ?_
        exact T_none
  · refine T_iconst (pc := 1492) C dL_law_1492 ?_
    exact T_none
noncomputable def f_law_21 (sq : Nat) (xs : Nat → Int32) (N : Nat) (rec : SL → Int → Option Unit) (σ : SL) (i : Int) : Option Unit :=
  if 0 ≤ (i + 1) ∧ (i + 1) < (sq : Int) then if 0 ≤ (i + 2) ∧ (i + 2) < (sq : Int) then (f_L_stopAt N σ (scv xs (i + 1)) (scv xs (i + 2))).bind fun v3 => (f_X13_stopAt v3.1.2.1 (scv xs (i + 1)) (scv xs (i + 2))).bind fun v4 => (f_X13_thrown (v3.1.1, v4.1, v3.1.2.2).2.1).bind fun v5 => (if v5 = v3.2 then (if v3.2 = 0 then (if (lcm ((v3.1.1, v4.1, v3.1.2.2).2.2.1) v4.2) = 0 then rec (v3.1.1, v4.1, v3.1.2.2) (i + 5) else none) else rec (v3.1.1, v4.1, v3.1.2.2) (i + 5)) else none) else none else none
theorem lc_21 {X : vjX} {A : Nat → Prop} {Q : State → Prop} {cy : Nat → ClassId} {adc adm : Nat → Nat} {E : Nat → Nat → Nat} {G : va_G} {Z : vZ} {sa : Nat → Nat} {sc sq : Nat} {xs : Nat → Int32} (zk : Zk Z E) (zy : Zy Z E sa) (zs : ZS Z E) (zE : ZE Z) (zp : ZP Z) (zd : ZD Z E) (hst : X.2.1.stackTraces = false) (hZ : Zx Z X (YL cy adc adm E G A 9 Q)) (sx : SX X A sc sq xs) (hL : sq ≤ 2560) (C : Cx X (YL cy adc adm E G A 9 Q) cL_law RL (some .boolean) room_1 (tyL cy)) (N : Nat) (n : Nat) (rec : SL → Int → Option Unit) (ih : ∀ (σ : SL) (i : Int) (a bb : Nat), rng i → a + n * 1000 ≤ 600000 → bb + n * 13000 ≤ 7200000 → T X (YL cy adc adm E G A 9 Q) (fun (_ : Unit) => ∀ (q : SL) (a bb : Nat), a ≤ 600000 → bb ≤ 7200000 → J X (YL cy adc adm E G A 9 Q) a bb 3734 [] [] q) a bb 28 [(0, .ref sc), (1, .ref (adc 0)), (2, .ref (adm 0)), (3, .ref (adm 11)), (4, .ref (adm 12)), (5, vi i)] [] σ (rec σ i)) (σ : SL) (i : Int) (a bb : Nat) (hi : rng i) (hi0 : 0 ≤ i ∧ i < (sq : Int)) (ha : a + (n + 1) * 1000 ≤ 600000) (hb : bb + (n + 1) * 13000 ≤ 7200000) : T X (YL cy adc adm E G A 9 Q) (fun (_ : Unit) => ∀ (q : SL) (a bb : Nat), a ≤ 600000 → bb ≤ 7200000 → J X (YL cy adc adm E G A 9 Q) a bb 3734 [] [] q) a bb 1514 [(0, .ref sc), (1, .ref (adc 0)), (2, .ref (adm 0)), (3, .ref (adm 11)), (4, .ref (adm 12)), (5, vi i)] [] σ (f_law_21 sq xs N rec σ i) := by
  have hsl : sq ≤ 2147483647 := by omega
  have hsq : rng (sq : Int) := by unfold rng; omega
  unfold f_law_21
  refine T_aload_n (pc := 1514) C dL_law_1514 rfl 1 rfl ?_
  refine T_aload_n (pc := 1515) C dL_law_1515 rfl 0 rfl ?_
  refine T_iload (pc := 1516) C dL_law_1516 5 rfl ?_
  refine T_iconst (pc := 1518) C dL_law_1518 ?_
  refine T_iadd (pc := 1519) C dL_law_1519 ?_
  refine T_guard (fun g1 => ?_)
  refine T_sld sx (pc := 1520) C hsl g1 dL_law_1520 ?_
  refine T_aload_n (pc := 1521) C dL_law_1521 rfl 0 rfl ?_
  refine T_iload (pc := 1522) C dL_law_1522 5 rfl ?_
  refine T_iconst (pc := 1524) C dL_law_1524 ?_
  refine T_iadd (pc := 1525) C dL_law_1525 ?_
  refine T_guard (fun g2 => ?_)
  refine T_sld sx (pc := 1526) C hsl g2 dL_law_1526 ?_
  refine T_aload_n (pc := 1527) C dL_law_1527 rfl 3 rfl ?_
  refine T_lh (pc := 1528) zk.1 hZ C [.ref (adc 0), vi (scv xs (i + 1)), vi (scv xs (i + 2)), .ref (adm 11)] [] (fun o h9 hw => ct_L_stopAt zk zy zs zE hst N σ (scv xs (i + 1)) (scv xs (i + 2)) (scv_rng _ _) (scv_rng _ _) hw o h9) kq_43 cm_L_stopAt rfl rfl (Nat.le_of_ble_eq_true rfl) ⟨⟨by decide, by decide⟩, by show _ + 2 ≤ room_1.cells; have := rmC1; omega, by show _ + 12 ≤ room_1.slots; have := rmS1; omega⟩ (a' := a + 2) (b' := bb + 12) ⟨rfl, rfl⟩ dL_law_1528 (fun v3 hv3 => ?_)
  refine T_istore (pc := 1531) (L' := [(6, vi v3.2), (0, .ref sc), (1, .ref (adc 0)), (2, .ref (adm 0)), (3, .ref (adm 11)), (4, .ref (adm 12)), (5, vi i)]) C dL_law_1531 (Nat.le_of_ble_eq_true rfl) rfl ?_
  refine T_aload_n (pc := 1533) C dL_law_1533 rfl 3 rfl ?_
  refine T_aload_n (pc := 1534) C dL_law_1534 rfl 1 rfl ?_
  refine T_iload (pc := 1535) C dL_law_1535 6 rfl ?_
  refine T_iconst (pc := 1537) C dL_law_1537 ?_
  refine T_iadd (pc := 1538) C dL_law_1538 ?_
  refine T_sld sx (pc := 1539) C hsl g1 dL_law_1539 ?_
  refine T_aload_n (pc := 1540) C dL_law_1540 rfl 1 rfl ?_
  refine T_iload (pc := 1541) C dL_law_1541 6 rfl ?_
  refine T_iconst (pc := 1543) C dL_law_1543 ?_
  refine T_iadd (pc := 1544) C dL_law_1544 ?_
  refine T_sld sx (pc := 1545) C hsl g2 dL_law_1545 ?_
  refine T_lmi (pc := 1546) C [vi (scv xs (i + 1)), vi (scv xs (i + 2))] [] (fun o h9 hw => ct_X13_stopAt v3.1.2.1 (scv xs (i + 1)) (scv xs (i + 2)) (scv_rng _ _) (scv_rng _ _) hw o h9) kq_44 cm_X13_stopAt rcm rfl rfl (Nat.le_of_ble_eq_true rfl) ⟨⟨by decide, by decide⟩, by show _ + 0 ≤ room_1.cells; have := rmC1; omega, by show _ + 0 ≤ room_1.slots; have := rmS1; omega⟩ (a' := a + 2) (b' := bb + 12) ⟨rfl, rfl⟩ dL_law_1546 (fun v4 hv4 => ?_)
  refine T_istore (pc := 1549) (L' := [(7, vi v4.2), (6, vi v3.2), (0, .ref sc), (1, .ref (adc 0)), (2, .ref (adm 0)), (3, .ref (adm 11)), (4, .ref (adm 12)), (5, vi i)]) C dL_law_1549 (Nat.le_of_ble_eq_true rfl) rfl ?_
  refine T_aload_n (pc := 1551) C dL_law_1551 rfl 4 rfl ?_
  refine T_lmp (pc := 1552) C [] [] (fun o h9 hw => ct_X13_thrown (v3.1.1, v4.1, v3.1.2.2).2.1 hw o h9) kq_2 cm_X13_thrown rcm rfl rfl (Nat.le_of_ble_eq_true rfl) ⟨⟨by decide, by decide⟩, by show _ + 0 ≤ room_1.cells; have := rmC1; omega, by show _ + 0 ≤ room_1.slots; have := rmS1; omega⟩ (a' := a + 2) (b' := bb + 12) ⟨rfl, rfl⟩ dL_law_1552 (fun v5 hv5 => ?_)
  refine T_iload (pc := 1555) C dL_law_1555 1 rfl ?_
  refine T_icmp_eq (pc := 1557) C 1562 dL_law_1557 rfl hv5.1 hv3 (fun c6 => ?_) (fun c6 => ?_)
  · refine T_iload (pc := 1562) C dL_law_1562 1 rfl ?_
    refine T_if_ne (pc := 1564) C 1579 dL_law_1564 rfl hv3 (fun c7 => ?_) (fun c7 => ?_)
    · refine T_goto (pc := 1579) C 3728 dL_law_1579 rfl ?_
      refine T_iinc (pc := 3728) (L' := [(5, vi (i + 5)), (7, vi v4.2), (6, vi v3.2), (0, .ref sc), (1, .ref (adc 0)), (2, .ref (adm 0)), (3, .ref (adm 11)), (4, .ref (adm 12))]) C dL_law_3728 (Nat.le_of_ble_eq_true rfl) 7 rfl rfl ?_
      refine T_goto (pc := 3731) C 28 dL_law_3731 rfl ?_
      refine T_sub (L' := [(0, .ref sc), (1, .ref (adc 0)), (2, .ref (adm 0)), (3, .ref (adm 11)), (4, .ref (adm 12)), (5, vi (i + 5))]) [3, 4, 5, 6, 7, 0] rfl ?_
      exact ih (v3.1.1, v4.1, v3.1.2.2) (i + 5) _ _ (by unfold rng; omega) (stp (c := 2) ha (by decide)) (stp (c := 12) hb (by decide))
    · refine T_aload_n (pc := 1567) C dL_law_1567 rfl 5 rfl ?_
      refine T_iconst (pc := 1568) C dL_law_1568 ?_
      refine T_lald (pc := 1569) C dL_law_1569 (fun o8 => ?_)
      refine T_iload (pc := 1570) C dL_law_1570 0 rfl ?_
      refine T_i2l (pc := 1572) C hv4.1 dL_law_1572 ?_
      refine T_lcmp (pc := 1573) C o8 hv4.1 dL_law_1573 ?_
      refine T_if_eq (pc := 1574) C 1579 dL_law_1574 rfl (lcm_rng _ _) (fun c9 => ?_) (fun c9 => ?_)
      · refine T_goto (pc := 1579) C 3728 dL_law_1579 rfl ?_
        refine T_iinc (pc := 3728) (L' := [(5, vi (i + 5)), (7, vi v4.2), (6, vi v3.2), (0, .ref sc), (1, .ref (adc 0)), (2, .ref (adm 0)), (3, .ref (adm 11)), (4, .ref (adm 12))]) C dL_law_3728 (Nat.le_of_ble_eq_true rfl) 7 rfl rfl ?_
        refine T_goto (pc := 3731) C 28 dL_law_3731 rfl ?_
        refine T_sub (L' := [(0, .ref sc), (1, .ref (adc 0)), (2, .ref (adm 0)), (3, .ref (adm 11)), (4, .ref (adm 12)), (5, vi (i + 5))]) [3, 4, 5, 6, 7, 0] rfl ?_
        exact ih (v3.1.1, v4.1, v3.1.2.2) (i + 5) _ _ (by unfold rng; omega) (stp (c := 2) ha (by decide)) (stp (c := 12) hb (by decide))
      · refine T_iconst (pc := 1577) C dL_law_1577 ?_
        exact T_none
  · refine T_iconst (pc := 1560) C dL_law_1560 ?_
    exact T_none
noncomputable def f_law_22 (sq : Nat) (xs : Nat → Int32) (N : Nat) (rec : SL → Int → Option Unit) (σ : SL) (i : Int) : Option Unit :=
  if 0 ≤ (i + 1) ∧ (i + 1) < (sq : Int) then if 0 ≤ (i + 2) ∧ (i + 2) < (sq : Int) then (f_L_positionOf N σ (scv xs (i + 1)) (scv xs (i + 2))).bind fun v3 => (f_X13_positionOf N v3.1.2.1 (scv xs (i + 1)) (scv xs (i + 2))).bind fun v4 => (f_X13_thrown (v3.1.1, v4.1, v3.1.2.2).2.1).bind fun v5 => (if v5 = v3.2 then (if v3.2 = 0 then (if (lcm ((v3.1.1, v4.1, v3.1.2.2).2.2.1) v4.2) = 0 then rec (v3.1.1, v4.1, v3.1.2.2) (i + 5) else none) else rec (v3.1.1, v4.1, v3.1.2.2) (i + 5)) else none) else none else none
theorem lc_22 {X : vjX} {A : Nat → Prop} {Q : State → Prop} {cy : Nat → ClassId} {adc adm : Nat → Nat} {E : Nat → Nat → Nat} {G : va_G} {Z : vZ} {sa : Nat → Nat} {sc sq : Nat} {xs : Nat → Int32} (zk : Zk Z E) (zy : Zy Z E sa) (zs : ZS Z E) (zE : ZE Z) (zp : ZP Z) (zd : ZD Z E) (hst : X.2.1.stackTraces = false) (hZ : Zx Z X (YL cy adc adm E G A 9 Q)) (sx : SX X A sc sq xs) (hL : sq ≤ 2560) (C : Cx X (YL cy adc adm E G A 9 Q) cL_law RL (some .boolean) room_1 (tyL cy)) (N : Nat) (n : Nat) (rec : SL → Int → Option Unit) (ih : ∀ (σ : SL) (i : Int) (a bb : Nat), rng i → a + n * 1000 ≤ 600000 → bb + n * 13000 ≤ 7200000 → T X (YL cy adc adm E G A 9 Q) (fun (_ : Unit) => ∀ (q : SL) (a bb : Nat), a ≤ 600000 → bb ≤ 7200000 → J X (YL cy adc adm E G A 9 Q) a bb 3734 [] [] q) a bb 28 [(0, .ref sc), (1, .ref (adc 0)), (2, .ref (adm 0)), (3, .ref (adm 11)), (4, .ref (adm 12)), (5, vi i)] [] σ (rec σ i)) (σ : SL) (i : Int) (a bb : Nat) (hi : rng i) (hi0 : 0 ≤ i ∧ i < (sq : Int)) (ha : a + (n + 1) * 1000 ≤ 600000) (hb : bb + (n + 1) * 13000 ≤ 7200000) : T X (YL cy adc adm E G A 9 Q) (fun (_ : Unit) => ∀ (q : SL) (a bb : Nat), a ≤ 600000 → bb ≤ 7200000 → J X (YL cy adc adm E G A 9 Q) a bb 3734 [] [] q) a bb 1582 [(0, .ref sc), (1, .ref (adc 0)), (2, .ref (adm 0)), (3, .ref (adm 11)), (4, .ref (adm 12)), (5, vi i)] [] σ (f_law_22 sq xs N rec σ i) := by
  have hsl : sq ≤ 2147483647 := by omega
  have hsq : rng (sq : Int) := by unfold rng; omega
  unfold f_law_22
  refine T_aload_n (pc := 1582) C dL_law_1582 rfl 1 rfl ?_
  refine T_aload_n (pc := 1583) C dL_law_1583 rfl 0 rfl ?_
  refine T_iload (pc := 1584) C dL_law_1584 5 rfl ?_
  refine T_iconst (pc := 1586) C dL_law_1586 ?_
  refine T_iadd (pc := 1587) C dL_law_1587 ?_
  refine T_guard (fun g1 => ?_)
  refine T_sld sx (pc := 1588) C hsl g1 dL_law_1588 ?_
  refine T_aload_n (pc := 1589) C dL_law_1589 rfl 0 rfl ?_
  refine T_iload (pc := 1590) C dL_law_1590 5 rfl ?_
  refine T_iconst (pc := 1592) C dL_law_1592 ?_
  refine T_iadd (pc := 1593) C dL_law_1593 ?_
  refine T_guard (fun g2 => ?_)
  refine T_sld sx (pc := 1594) C hsl g2 dL_law_1594 ?_
  refine T_aload_n (pc := 1595) C dL_law_1595 rfl 3 rfl ?_
  refine T_lh (pc := 1596) zk.1 hZ C [.ref (adc 0), vi (scv xs (i + 1)), vi (scv xs (i + 2)), .ref (adm 11)] [] (fun o h9 hw => ct_L_positionOf zk zy zs zE hst N σ (scv xs (i + 1)) (scv xs (i + 2)) (scv_rng _ _) (scv_rng _ _) hw o h9) kq_45 cm_L_positionOf rfl rfl (Nat.le_of_ble_eq_true rfl) ⟨⟨by decide, by decide⟩, by show _ + 2 ≤ room_1.cells; have := rmC1; omega, by show _ + 12 ≤ room_1.slots; have := rmS1; omega⟩ (a' := a + 2) (b' := bb + 12) ⟨rfl, rfl⟩ dL_law_1596 (fun v3 hv3 => ?_)
  refine T_istore (pc := 1599) (L' := [(6, vi v3.2), (0, .ref sc), (1, .ref (adc 0)), (2, .ref (adm 0)), (3, .ref (adm 11)), (4, .ref (adm 12)), (5, vi i)]) C dL_law_1599 (Nat.le_of_ble_eq_true rfl) rfl ?_
  refine T_aload_n (pc := 1601) C dL_law_1601 rfl 3 rfl ?_
  refine T_aload_n (pc := 1602) C dL_law_1602 rfl 1 rfl ?_
  refine T_iload (pc := 1603) C dL_law_1603 6 rfl ?_
  refine T_iconst (pc := 1605) C dL_law_1605 ?_
  refine T_iadd (pc := 1606) C dL_law_1606 ?_
  refine T_sld sx (pc := 1607) C hsl g1 dL_law_1607 ?_
  refine T_aload_n (pc := 1608) C dL_law_1608 rfl 1 rfl ?_
  refine T_iload (pc := 1609) C dL_law_1609 6 rfl ?_
  refine T_iconst (pc := 1611) C dL_law_1611 ?_
  refine T_iadd (pc := 1612) C dL_law_1612 ?_
  refine T_sld sx (pc := 1613) C hsl g2 dL_law_1613 ?_
  refine T_lmi (pc := 1614) C [vi (scv xs (i + 1)), vi (scv xs (i + 2))] [] (fun o h9 hw => ct_X13_positionOf N v3.1.2.1 (scv xs (i + 1)) (scv xs (i + 2)) (scv_rng _ _) (scv_rng _ _) hw o h9) kq_46 cm_X13_positionOf rcm rfl rfl (Nat.le_of_ble_eq_true rfl) ⟨⟨by decide, by decide⟩, by show _ + 0 ≤ room_1.cells; have := rmC1; omega, by show _ + 0 ≤ room_1.slots; have := rmS1; omega⟩ (a' := a + 2) (b' := bb + 12) ⟨rfl, rfl⟩ dL_law_1614 (fun v4 hv4 => ?_)
  refine T_istore (pc := 1617) (L' := [(7, vi v4.2), (6, vi v3.2), (0, .ref sc), (1, .ref (adc 0)), (2, .ref (adm 0)), (3, .ref (adm 11)), (4, .ref (adm 12)), (5, vi i)]) C dL_law_1617 (Nat.le_of_ble_eq_true rfl) rfl ?_
  refine T_aload_n (pc := 1619) C dL_law_1619 rfl 4 rfl ?_
  refine T_lmp (pc := 1620) C [] [] (fun o h9 hw => ct_X13_thrown (v3.1.1, v4.1, v3.1.2.2).2.1 hw o h9) kq_2 cm_X13_thrown rcm rfl rfl (Nat.le_of_ble_eq_true rfl) ⟨⟨by decide, by decide⟩, by show _ + 0 ≤ room_1.cells; have := rmC1; omega, by show _ + 0 ≤ room_1.slots; have := rmS1; omega⟩ (a' := a + 2) (b' := bb + 12) ⟨rfl, rfl⟩ dL_law_1620 (fun v5 hv5 => ?_)
  refine T_iload (pc := 1623) C dL_law_1623 1 rfl ?_
  refine T_icmp_eq (pc := 1625) C 1630 dL_law_1625 rfl hv5.1 hv3 (fun c6 => ?_) (fun c6 => ?_)
  · refine T_iload (pc := 1630) C dL_law_1630 1 rfl ?_
    refine T_if_ne (pc := 1632) C 1647 dL_law_1632 rfl hv3 (fun c7 => ?_) (fun c7 => ?_)
    · refine T_goto (pc := 1647) C 3728 dL_law_1647 rfl ?_
      refine T_iinc (pc := 3728) (L' := [(5, vi (i + 5)), (7, vi v4.2), (6, vi v3.2), (0, .ref sc), (1, .ref (adc 0)), (2, .ref (adm 0)), (3, .ref (adm 11)), (4, .ref (adm 12))]) C dL_law_3728 (Nat.le_of_ble_eq_true rfl) 7 rfl rfl ?_
      refine T_goto (pc := 3731) C 28 dL_law_3731 rfl ?_
      refine T_sub (L' := [(0, .ref sc), (1, .ref (adc 0)), (2, .ref (adm 0)), (3, .ref (adm 11)), (4, .ref (adm 12)), (5, vi (i + 5))]) [3, 4, 5, 6, 7, 0] rfl ?_
      exact ih (v3.1.1, v4.1, v3.1.2.2) (i + 5) _ _ (by unfold rng; omega) (stp (c := 2) ha (by decide)) (stp (c := 12) hb (by decide))
    · refine T_aload_n (pc := 1635) C dL_law_1635 rfl 5 rfl ?_
      refine T_iconst (pc := 1636) C dL_law_1636 ?_
      refine T_lald (pc := 1637) C dL_law_1637 (fun o8 => ?_)
      refine T_iload (pc := 1638) C dL_law_1638 0 rfl ?_
      refine T_i2l (pc := 1640) C hv4.1 dL_law_1640 ?_
      refine T_lcmp (pc := 1641) C o8 hv4.1 dL_law_1641 ?_
      refine T_if_eq (pc := 1642) C 1647 dL_law_1642 rfl (lcm_rng _ _) (fun c9 => ?_) (fun c9 => ?_)
      · refine T_goto (pc := 1647) C 3728 dL_law_1647 rfl ?_
        refine T_iinc (pc := 3728) (L' := [(5, vi (i + 5)), (7, vi v4.2), (6, vi v3.2), (0, .ref sc), (1, .ref (adc 0)), (2, .ref (adm 0)), (3, .ref (adm 11)), (4, .ref (adm 12))]) C dL_law_3728 (Nat.le_of_ble_eq_true rfl) 7 rfl rfl ?_
        refine T_goto (pc := 3731) C 28 dL_law_3731 rfl ?_
        refine T_sub (L' := [(0, .ref sc), (1, .ref (adc 0)), (2, .ref (adm 0)), (3, .ref (adm 11)), (4, .ref (adm 12)), (5, vi (i + 5))]) [3, 4, 5, 6, 7, 0] rfl ?_
        exact ih (v3.1.1, v4.1, v3.1.2.2) (i + 5) _ _ (by unfold rng; omega) (stp (c := 2) ha (by decide)) (stp (c := 12) hb (by decide))
      · refine T_iconst (pc := 1645) C dL_law_1645 ?_
        exact T_none
  · refine T_iconst (pc := 1628) C dL_law_1628 ?_
    exact T_none
noncomputable def f_law_23 (sq : Nat) (xs : Nat → Int32) (N : Nat) (rec : SL → Int → Option Unit) (σ : SL) (i : Int) : Option Unit :=
  if 0 ≤ (i + 1) ∧ (i + 1) < (sq : Int) then (f_L_hopMinutes N σ (scv xs (i + 1))).bind fun v2 => (f_X13_hopMinutes v2.1.2.1 (scv xs (i + 1))).bind fun v3 => (f_X13_thrown (v2.1.1, v3.1, v2.1.2.2).2.1).bind fun v4 => (if v4 = v2.2 then (if v2.2 = 0 then (if (lcm ((v2.1.1, v3.1, v2.1.2.2).2.2.1) v3.2) = 0 then rec (v2.1.1, v3.1, v2.1.2.2) (i + 5) else none) else rec (v2.1.1, v3.1, v2.1.2.2) (i + 5)) else none) else none
theorem lc_23 {X : vjX} {A : Nat → Prop} {Q : State → Prop} {cy : Nat → ClassId} {adc adm : Nat → Nat} {E : Nat → Nat → Nat} {G : va_G} {Z : vZ} {sa : Nat → Nat} {sc sq : Nat} {xs : Nat → Int32} (zk : Zk Z E) (zy : Zy Z E sa) (zs : ZS Z E) (zE : ZE Z) (zp : ZP Z) (zd : ZD Z E) (hst : X.2.1.stackTraces = false) (hZ : Zx Z X (YL cy adc adm E G A 9 Q)) (sx : SX X A sc sq xs) (hL : sq ≤ 2560) (C : Cx X (YL cy adc adm E G A 9 Q) cL_law RL (some .boolean) room_1 (tyL cy)) (N : Nat) (n : Nat) (rec : SL → Int → Option Unit) (ih : ∀ (σ : SL) (i : Int) (a bb : Nat), rng i → a + n * 1000 ≤ 600000 → bb + n * 13000 ≤ 7200000 → T X (YL cy adc adm E G A 9 Q) (fun (_ : Unit) => ∀ (q : SL) (a bb : Nat), a ≤ 600000 → bb ≤ 7200000 → J X (YL cy adc adm E G A 9 Q) a bb 3734 [] [] q) a bb 28 [(0, .ref sc), (1, .ref (adc 0)), (2, .ref (adm 0)), (3, .ref (adm 11)), (4, .ref (adm 12)), (5, vi i)] [] σ (rec σ i)) (σ : SL) (i : Int) (a bb : Nat) (hi : rng i) (hi0 : 0 ≤ i ∧ i < (sq : Int)) (ha : a + (n + 1) * 1000 ≤ 600000) (hb : bb + (n + 1) * 13000 ≤ 7200000) : T X (YL cy adc adm E G A 9 Q) (fun (_ : Unit) => ∀ (q : SL) (a bb : Nat), a ≤ 600000 → bb ≤ 7200000 → J X (YL cy adc adm E G A 9 Q) a bb 3734 [] [] q) a bb 1650 [(0, .ref sc), (1, .ref (adc 0)), (2, .ref (adm 0)), (3, .ref (adm 11)), (4, .ref (adm 12)), (5, vi i)] [] σ (f_law_23 sq xs N rec σ i) := by
  have hsl : sq ≤ 2147483647 := by omega
  have hsq : rng (sq : Int) := by unfold rng; omega
  unfold f_law_23
  refine T_aload_n (pc := 1650) C dL_law_1650 rfl 1 rfl ?_
  refine T_aload_n (pc := 1651) C dL_law_1651 rfl 0 rfl ?_
  refine T_iload (pc := 1652) C dL_law_1652 5 rfl ?_
  refine T_iconst (pc := 1654) C dL_law_1654 ?_
  refine T_iadd (pc := 1655) C dL_law_1655 ?_
  refine T_guard (fun g1 => ?_)
  refine T_sld sx (pc := 1656) C hsl g1 dL_law_1656 ?_
  refine T_aload_n (pc := 1657) C dL_law_1657 rfl 3 rfl ?_
  refine T_lh (pc := 1658) zk.1 hZ C [.ref (adc 0), vi (scv xs (i + 1)), .ref (adm 11)] [] (fun o h9 hw => ct_L_hopMinutes zk zy zs zE hst N σ (scv xs (i + 1)) (scv_rng _ _) hw o h9) kq_47 cm_L_hopMinutes rfl rfl (Nat.le_of_ble_eq_true rfl) ⟨⟨by decide, by decide⟩, by show _ + 1 ≤ room_1.cells; have := rmC1; omega, by show _ + 6 ≤ room_1.slots; have := rmS1; omega⟩ (a' := a + 1) (b' := bb + 6) ⟨rfl, rfl⟩ dL_law_1658 (fun v2 hv2 => ?_)
  refine T_istore (pc := 1661) (L' := [(6, vi v2.2), (0, .ref sc), (1, .ref (adc 0)), (2, .ref (adm 0)), (3, .ref (adm 11)), (4, .ref (adm 12)), (5, vi i)]) C dL_law_1661 (Nat.le_of_ble_eq_true rfl) rfl ?_
  refine T_aload_n (pc := 1663) C dL_law_1663 rfl 3 rfl ?_
  refine T_aload_n (pc := 1664) C dL_law_1664 rfl 1 rfl ?_
  refine T_iload (pc := 1665) C dL_law_1665 6 rfl ?_
  refine T_iconst (pc := 1667) C dL_law_1667 ?_
  refine T_iadd (pc := 1668) C dL_law_1668 ?_
  refine T_sld sx (pc := 1669) C hsl g1 dL_law_1669 ?_
  refine T_lmi (pc := 1670) C [vi (scv xs (i + 1))] [] (fun o h9 hw => ct_X13_hopMinutes v2.1.2.1 (scv xs (i + 1)) (scv_rng _ _) hw o h9) kq_48 cm_X13_hopMinutes rcm rfl rfl (Nat.le_of_ble_eq_true rfl) ⟨⟨by decide, by decide⟩, by show _ + 0 ≤ room_1.cells; have := rmC1; omega, by show _ + 0 ≤ room_1.slots; have := rmS1; omega⟩ (a' := a + 1) (b' := bb + 6) ⟨rfl, rfl⟩ dL_law_1670 (fun v3 hv3 => ?_)
  refine T_istore (pc := 1673) (L' := [(7, vi v3.2), (6, vi v2.2), (0, .ref sc), (1, .ref (adc 0)), (2, .ref (adm 0)), (3, .ref (adm 11)), (4, .ref (adm 12)), (5, vi i)]) C dL_law_1673 (Nat.le_of_ble_eq_true rfl) rfl ?_
  refine T_aload_n (pc := 1675) C dL_law_1675 rfl 4 rfl ?_
  refine T_lmp (pc := 1676) C [] [] (fun o h9 hw => ct_X13_thrown (v2.1.1, v3.1, v2.1.2.2).2.1 hw o h9) kq_2 cm_X13_thrown rcm rfl rfl (Nat.le_of_ble_eq_true rfl) ⟨⟨by decide, by decide⟩, by show _ + 0 ≤ room_1.cells; have := rmC1; omega, by show _ + 0 ≤ room_1.slots; have := rmS1; omega⟩ (a' := a + 1) (b' := bb + 6) ⟨rfl, rfl⟩ dL_law_1676 (fun v4 hv4 => ?_)
  refine T_iload (pc := 1679) C dL_law_1679 1 rfl ?_
  refine T_icmp_eq (pc := 1681) C 1686 dL_law_1681 rfl hv4.1 hv2 (fun c5 => ?_) (fun c5 => ?_)
  · refine T_iload (pc := 1686) C dL_law_1686 1 rfl ?_
    refine T_if_ne (pc := 1688) C 1703 dL_law_1688 rfl hv2 (fun c6 => ?_) (fun c6 => ?_)
    · refine T_goto (pc := 1703) C 3728 dL_law_1703 rfl ?_
      refine T_iinc (pc := 3728) (L' := [(5, vi (i + 5)), (7, vi v3.2), (6, vi v2.2), (0, .ref sc), (1, .ref (adc 0)), (2, .ref (adm 0)), (3, .ref (adm 11)), (4, .ref (adm 12))]) C dL_law_3728 (Nat.le_of_ble_eq_true rfl) 7 rfl rfl ?_
      refine T_goto (pc := 3731) C 28 dL_law_3731 rfl ?_
      refine T_sub (L' := [(0, .ref sc), (1, .ref (adc 0)), (2, .ref (adm 0)), (3, .ref (adm 11)), (4, .ref (adm 12)), (5, vi (i + 5))]) [3, 4, 5, 6, 7, 0] rfl ?_
      exact ih (v2.1.1, v3.1, v2.1.2.2) (i + 5) _ _ (by unfold rng; omega) (stp (c := 1) ha (by decide)) (stp (c := 6) hb (by decide))
    · refine T_aload_n (pc := 1691) C dL_law_1691 rfl 5 rfl ?_
      refine T_iconst (pc := 1692) C dL_law_1692 ?_
      refine T_lald (pc := 1693) C dL_law_1693 (fun o7 => ?_)
      refine T_iload (pc := 1694) C dL_law_1694 0 rfl ?_
      refine T_i2l (pc := 1696) C hv3.1 dL_law_1696 ?_
      refine T_lcmp (pc := 1697) C o7 hv3.1 dL_law_1697 ?_
      refine T_if_eq (pc := 1698) C 1703 dL_law_1698 rfl (lcm_rng _ _) (fun c8 => ?_) (fun c8 => ?_)
      · refine T_goto (pc := 1703) C 3728 dL_law_1703 rfl ?_
        refine T_iinc (pc := 3728) (L' := [(5, vi (i + 5)), (7, vi v3.2), (6, vi v2.2), (0, .ref sc), (1, .ref (adc 0)), (2, .ref (adm 0)), (3, .ref (adm 11)), (4, .ref (adm 12))]) C dL_law_3728 (Nat.le_of_ble_eq_true rfl) 7 rfl rfl ?_
        refine T_goto (pc := 3731) C 28 dL_law_3731 rfl ?_
        refine T_sub (L' := [(0, .ref sc), (1, .ref (adc 0)), (2, .ref (adm 0)), (3, .ref (adm 11)), (4, .ref (adm 12)), (5, vi (i + 5))]) [3, 4, 5, 6, 7, 0] rfl ?_
        exact ih (v2.1.1, v3.1, v2.1.2.2) (i + 5) _ _ (by unfold rng; omega) (stp (c := 1) ha (by decide)) (stp (c := 6) hb (by decide))
      · refine T_iconst (pc := 1701) C dL_law_1701 ?_
        exact T_none
  · refine T_iconst (pc := 1684) C dL_law_1684 ?_
    exact T_none
