/-! the law's loop, cases 32 and on -/
noncomputable def f_law_32 (sq : Nat) (xs : Nat → Int32) (N : Nat) (rec : SL → Int → Option Unit) (σ : SL) (i : Int) : Option Unit :=
  if 0 ≤ (i + 1) ∧ (i + 1) < (sq : Int) then if 0 ≤ (i + 2) ∧ (i + 2) < (sq : Int) then (f_L_flow N σ (scv xs (i + 1)) (scv xs (i + 2))).bind fun v3 => (f_X13_flow N v3.1.2.1 (scv xs (i + 1)) (scv xs (i + 2))).bind fun v4 => (f_X13_thrown (v3.1.1, v4.1, v3.1.2.2).2.1).bind fun v5 => (if v5 = v3.2 then (if v3.2 = 0 then (if (lcm ((v3.1.1, v4.1, v3.1.2.2).2.2.1) v4.2) = 0 then rec (v3.1.1, v4.1, v3.1.2.2) (i + 5) else none) else rec (v3.1.1, v4.1, v3.1.2.2) (i + 5)) else none) else none else none
theorem lc_32 {X : vjX} {A : Nat → Prop} {Q : State → Prop} {cy : Nat → ClassId} {adc adm : Nat → Nat} {E : Nat → Nat → Nat} {G : va_G} {Z : vZ} {sa : Nat → Nat} {sc sq : Nat} {xs : Nat → Int32} (zk : Zk Z E) (zy : Zy Z E sa) (zs : ZS Z E) (zE : ZE Z) (zp : ZP Z) (zd : ZD Z E) (hst : X.2.1.stackTraces = false) (hZ : Zx Z X (YL cy adc adm E G A 9 Q)) (sx : SX X A sc sq xs) (hL : sq ≤ 2560) (C : Cx X (YL cy adc adm E G A 9 Q) cL_law RL (some .boolean) room_1 (tyL cy)) (N : Nat) (n : Nat) (rec : SL → Int → Option Unit) (ih : ∀ (σ : SL) (i : Int) (a bb : Nat), rng i → a + n * 1000 ≤ 600000 → bb + n * 13000 ≤ 7200000 → T X (YL cy adc adm E G A 9 Q) (fun (_ : Unit) => ∀ (q : SL) (a bb : Nat), a ≤ 600000 → bb ≤ 7200000 → J X (YL cy adc adm E G A 9 Q) a bb 3734 [] [] q) a bb 28 [(0, .ref sc), (1, .ref (adc 0)), (2, .ref (adm 0)), (3, .ref (adm 11)), (4, .ref (adm 12)), (5, vi i)] [] σ (rec σ i)) (σ : SL) (i : Int) (a bb : Nat) (hi : rng i) (hi0 : 0 ≤ i ∧ i < (sq : Int)) (ha : a + (n + 1) * 1000 ≤ 600000) (hb : bb + (n + 1) * 13000 ≤ 7200000) : T X (YL cy adc adm E G A 9 Q) (fun (_ : Unit) => ∀ (q : SL) (a bb : Nat), a ≤ 600000 → bb ≤ 7200000 → J X (YL cy adc adm E G A 9 Q) a bb 3734 [] [] q) a bb 2305 [(0, .ref sc), (1, .ref (adc 0)), (2, .ref (adm 0)), (3, .ref (adm 11)), (4, .ref (adm 12)), (5, vi i)] [] σ (f_law_32 sq xs N rec σ i) := by
  have hsl : sq ≤ 2147483647 := by omega
  have hsq : rng (sq : Int) := by unfold rng; omega
  unfold f_law_32
  refine T_aload_n (pc := 2305) C dL_law_2305 rfl 1 rfl ?_
  refine T_aload_n (pc := 2306) C dL_law_2306 rfl 0 rfl ?_
  refine T_iload (pc := 2307) C dL_law_2307 5 rfl ?_
  refine T_iconst (pc := 2309) C dL_law_2309 ?_
  refine T_iadd (pc := 2310) C dL_law_2310 ?_
  refine T_guard (fun g1 => ?_)
  refine T_sld sx (pc := 2311) C hsl g1 dL_law_2311 ?_
  refine T_aload_n (pc := 2312) C dL_law_2312 rfl 0 rfl ?_
  refine T_iload (pc := 2313) C dL_law_2313 5 rfl ?_
  refine T_iconst (pc := 2315) C dL_law_2315 ?_
  refine T_iadd (pc := 2316) C dL_law_2316 ?_
  refine T_guard (fun g2 => ?_)
  refine T_sld sx (pc := 2317) C hsl g2 dL_law_2317 ?_
  refine T_aload_n (pc := 2318) C dL_law_2318 rfl 3 rfl ?_
  refine T_lh (pc := 2319) zk.1 hZ C [.ref (adc 0), vi (scv xs (i + 1)), vi (scv xs (i + 2)), .ref (adm 11)] [] (fun o h9 hw => ct_L_flow zk zy zs zE hst N σ (scv xs (i + 1)) (scv xs (i + 2)) (scv_rng _ _) (scv_rng _ _) hw o h9) kq_65 cm_L_flow rfl rfl (Nat.le_of_ble_eq_true rfl) ⟨⟨by decide, by decide⟩, by show _ + 1 ≤ room_1.cells; have := rmC1; omega, by show _ + 6 ≤ room_1.slots; have := rmS1; omega⟩ (a' := a + 1) (b' := bb + 6) ⟨rfl, rfl⟩ dL_law_2319 (fun v3 hv3 => ?_)
  refine T_istore (pc := 2322) (L' := [(6, vi v3.2), (0, .ref sc), (1, .ref (adc 0)), (2, .ref (adm 0)), (3, .ref (adm 11)), (4, .ref (adm 12)), (5, vi i)]) C dL_law_2322 (Nat.le_of_ble_eq_true rfl) rfl ?_
  refine T_aload_n (pc := 2324) C dL_law_2324 rfl 3 rfl ?_
  refine T_aload_n (pc := 2325) C dL_law_2325 rfl 1 rfl ?_
  refine T_iload (pc := 2326) C dL_law_2326 6 rfl ?_
  refine T_iconst (pc := 2328) C dL_law_2328 ?_
  refine T_iadd (pc := 2329) C dL_law_2329 ?_
  refine T_sld sx (pc := 2330) C hsl g1 dL_law_2330 ?_
  refine T_aload_n (pc := 2331) C dL_law_2331 rfl 1 rfl ?_
  refine T_iload (pc := 2332) C dL_law_2332 6 rfl ?_
  refine T_iconst (pc := 2334) C dL_law_2334 ?_
  refine T_iadd (pc := 2335) C dL_law_2335 ?_
  refine T_sld sx (pc := 2336) C hsl g2 dL_law_2336 ?_
  refine T_lmi (pc := 2337) C [vi (scv xs (i + 1)), vi (scv xs (i + 2))] [] (fun o h9 hw => ct_X13_flow N v3.1.2.1 (scv xs (i + 1)) (scv xs (i + 2)) (scv_rng _ _) (scv_rng _ _) hw o h9) kq_66 cm_X13_flow rcm rfl rfl (Nat.le_of_ble_eq_true rfl) ⟨⟨by decide, by decide⟩, by show _ + 0 ≤ room_1.cells; have := rmC1; omega, by show _ + 0 ≤ room_1.slots; have := rmS1; omega⟩ (a' := a + 1) (b' := bb + 6) ⟨rfl, rfl⟩ dL_law_2337 (fun v4 hv4 => ?_)
  refine T_istore (pc := 2340) (L' := [(7, vi v4.2), (6, vi v3.2), (0, .ref sc), (1, .ref (adc 0)), (2, .ref (adm 0)), (3, .ref (adm 11)), (4, .ref (adm 12)), (5, vi i)]) C dL_law_2340 (Nat.le_of_ble_eq_true rfl) rfl ?_
  refine T_aload_n (pc := 2342) C dL_law_2342 rfl 4 rfl ?_
  refine T_lmp (pc := 2343) C [] [] (fun o h9 hw => ct_X13_thrown (v3.1.1, v4.1, v3.1.2.2).2.1 hw o h9) kq_2 cm_X13_thrown rcm rfl rfl (Nat.le_of_ble_eq_true rfl) ⟨⟨by decide, by decide⟩, by show _ + 0 ≤ room_1.cells; have := rmC1; omega, by show _ + 0 ≤ room_1.slots; have := rmS1; omega⟩ (a' := a + 1) (b' := bb + 6) ⟨rfl, rfl⟩ dL_law_2343 (fun v5 hv5 => ?_)
  refine T_iload (pc := 2346) C dL_law_2346 1 rfl ?_
  refine T_icmp_eq (pc := 2348) C 2353 dL_law_2348 rfl hv5.1 hv3 (fun c6 => ?_) (fun c6 => ?_)
  · refine T_iload (pc := 2353) C dL_law_2353 1 rfl ?_
    refine T_if_ne (pc := 2355) C 2370 dL_law_2355 rfl hv3 (fun c7 => ?_) (fun c7 => ?_)
    · refine T_goto (pc := 2370) C 3728 dL_law_2370 rfl ?_
      refine T_iinc (pc := 3728) (L' := [(5, vi (i + 5)), (7, vi v4.2), (6, vi v3.2), (0, .ref sc), (1, .ref (adc 0)), (2, .ref (adm 0)), (3, .ref (adm 11)), (4, .ref (adm 12))]) C dL_law_3728 (Nat.le_of_ble_eq_true rfl) 7 rfl rfl ?_
      refine T_goto (pc := 3731) C 28 dL_law_3731 rfl ?_
      refine T_sub (L' := [(0, .ref sc), (1, .ref (adc 0)), (2, .ref (adm 0)), (3, .ref (adm 11)), (4, .ref (adm 12)), (5, vi (i + 5))]) [3, 4, 5, 6, 7, 0] rfl ?_
      exact ih (v3.1.1, v4.1, v3.1.2.2) (i + 5) _ _ (by unfold rng; omega) (stp (c := 1) ha (by decide)) (stp (c := 6) hb (by decide))
    · refine T_aload_n (pc := 2358) C dL_law_2358 rfl 5 rfl ?_
      refine T_iconst (pc := 2359) C dL_law_2359 ?_
      refine T_lald (pc := 2360) C dL_law_2360 (fun o8 => ?_)
      refine T_iload (pc := 2361) C dL_law_2361 0 rfl ?_
      refine T_i2l (pc := 2363) C hv4.1 dL_law_2363 ?_
      refine T_lcmp (pc := 2364) C o8 hv4.1 dL_law_2364 ?_
      refine T_if_eq (pc := 2365) C 2370 dL_law_2365 rfl (lcm_rng _ _) (fun c9 => ?_) (fun c9 => ?_)
      · refine T_goto (pc := 2370) C 3728 dL_law_2370 rfl ?_
        refine T_iinc (pc := 3728) (L' := [(5, vi (i + 5)), (7, vi v4.2), (6, vi v3.2), (0, .ref sc), (1, .ref (adc 0)), (2, .ref (adm 0)), (3, .ref (adm 11)), (4, .ref (adm 12))]) C dL_law_3728 (Nat.le_of_ble_eq_true rfl) 7 rfl rfl ?_
        refine T_goto (pc := 3731) C 28 dL_law_3731 rfl ?_
        refine T_sub (L' := [(0, .ref sc), (1, .ref (adc 0)), (2, .ref (adm 0)), (3, .ref (adm 11)), (4, .ref (adm 12)), (5, vi (i + 5))]) [3, 4, 5, 6, 7, 0] rfl ?_
        exact ih (v3.1.1, v4.1, v3.1.2.2) (i + 5) _ _ (by unfold rng; omega) (stp (c := 1) ha (by decide)) (stp (c := 6) hb (by decide))
      · refine T_iconst (pc := 2368) C dL_law_2368 ?_
        exact T_none
  · refine T_iconst (pc := 2351) C dL_law_2351 ?_
    exact T_none
noncomputable def f_law_33 (sq : Nat) (xs : Nat → Int32) (N : Nat) (rec : SL → Int → Option Unit) (σ : SL) (i : Int) : Option Unit :=
  if 0 ≤ (i + 1) ∧ (i + 1) < (sq : Int) then if 0 ≤ (i + 2) ∧ (i + 2) < (sq : Int) then (f_L_smallestCut N σ (scv xs (i + 1)) (scv xs (i + 2))).bind fun v3 => (f_X13_smallestCut N v3.1.2.1 (scv xs (i + 1)) (scv xs (i + 2))).bind fun v4 => (f_X13_thrown (v3.1.1, v4.1, v3.1.2.2).2.1).bind fun v5 => (if v5 = v3.2 then (if v3.2 = 0 then (if (lcm ((v3.1.1, v4.1, v3.1.2.2).2.2.1) v4.2) = 0 then rec (v3.1.1, v4.1, v3.1.2.2) (i + 5) else none) else rec (v3.1.1, v4.1, v3.1.2.2) (i + 5)) else none) else none else none
theorem lc_33 {X : vjX} {A : Nat → Prop} {Q : State → Prop} {cy : Nat → ClassId} {adc adm : Nat → Nat} {E : Nat → Nat → Nat} {G : va_G} {Z : vZ} {sa : Nat → Nat} {sc sq : Nat} {xs : Nat → Int32} (zk : Zk Z E) (zy : Zy Z E sa) (zs : ZS Z E) (zE : ZE Z) (zp : ZP Z) (zd : ZD Z E) (hst : X.2.1.stackTraces = false) (hZ : Zx Z X (YL cy adc adm E G A 9 Q)) (sx : SX X A sc sq xs) (hL : sq ≤ 2560) (C : Cx X (YL cy adc adm E G A 9 Q) cL_law RL (some .boolean) room_1 (tyL cy)) (N : Nat) (n : Nat) (rec : SL → Int → Option Unit) (ih : ∀ (σ : SL) (i : Int) (a bb : Nat), rng i → a + n * 1000 ≤ 600000 → bb + n * 13000 ≤ 7200000 → T X (YL cy adc adm E G A 9 Q) (fun (_ : Unit) => ∀ (q : SL) (a bb : Nat), a ≤ 600000 → bb ≤ 7200000 → J X (YL cy adc adm E G A 9 Q) a bb 3734 [] [] q) a bb 28 [(0, .ref sc), (1, .ref (adc 0)), (2, .ref (adm 0)), (3, .ref (adm 11)), (4, .ref (adm 12)), (5, vi i)] [] σ (rec σ i)) (σ : SL) (i : Int) (a bb : Nat) (hi : rng i) (hi0 : 0 ≤ i ∧ i < (sq : Int)) (ha : a + (n + 1) * 1000 ≤ 600000) (hb : bb + (n + 1) * 13000 ≤ 7200000) : T X (YL cy adc adm E G A 9 Q) (fun (_ : Unit) => ∀ (q : SL) (a bb : Nat), a ≤ 600000 → bb ≤ 7200000 → J X (YL cy adc adm E G A 9 Q) a bb 3734 [] [] q) a bb 2373 [(0, .ref sc), (1, .ref (adc 0)), (2, .ref (adm 0)), (3, .ref (adm 11)), (4, .ref (adm 12)), (5, vi i)] [] σ (f_law_33 sq xs N rec σ i) := by
  have hsl : sq ≤ 2147483647 := by omega
  have hsq : rng (sq : Int) := by unfold rng; omega
  unfold f_law_33
  refine T_aload_n (pc := 2373) C dL_law_2373 rfl 1 rfl ?_
  refine T_aload_n (pc := 2374) C dL_law_2374 rfl 0 rfl ?_
  refine T_iload (pc := 2375) C dL_law_2375 5 rfl ?_
  refine T_iconst (pc := 2377) C dL_law_2377 ?_
  refine T_iadd (pc := 2378) C dL_law_2378 ?_
  refine T_guard (fun g1 => ?_)
  refine T_sld sx (pc := 2379) C hsl g1 dL_law_2379 ?_
  refine T_aload_n (pc := 2380) C dL_law_2380 rfl 0 rfl ?_
  refine T_iload (pc := 2381) C dL_law_2381 5 rfl ?_
  refine T_iconst (pc := 2383) C dL_law_2383 ?_
  refine T_iadd (pc := 2384) C dL_law_2384 ?_
  refine T_guard (fun g2 => ?_)
  refine T_sld sx (pc := 2385) C hsl g2 dL_law_2385 ?_
  refine T_aload_n (pc := 2386) C dL_law_2386 rfl 3 rfl ?_
  refine T_lh (pc := 2387) zk.1 hZ C [.ref (adc 0), vi (scv xs (i + 1)), vi (scv xs (i + 2)), .ref (adm 11)] [] (fun o h9 hw => ct_L_smallestCut zk zy zs zE hst N σ (scv xs (i + 1)) (scv xs (i + 2)) (scv_rng _ _) (scv_rng _ _) hw o h9) kq_67 cm_L_smallestCut rfl rfl (Nat.le_of_ble_eq_true rfl) ⟨⟨by decide, by decide⟩, by show _ + 1 ≤ room_1.cells; have := rmC1; omega, by show _ + 6 ≤ room_1.slots; have := rmS1; omega⟩ (a' := a + 1) (b' := bb + 6) ⟨rfl, rfl⟩ dL_law_2387 (fun v3 hv3 => ?_)
  refine T_istore (pc := 2390) (L' := [(6, vi v3.2), (0, .ref sc), (1, .ref (adc 0)), (2, .ref (adm 0)), (3, .ref (adm 11)), (4, .ref (adm 12)), (5, vi i)]) C dL_law_2390 (Nat.le_of_ble_eq_true rfl) rfl ?_
  refine T_aload_n (pc := 2392) C dL_law_2392 rfl 3 rfl ?_
  refine T_aload_n (pc := 2393) C dL_law_2393 rfl 1 rfl ?_
  refine T_iload (pc := 2394) C dL_law_2394 6 rfl ?_
  refine T_iconst (pc := 2396) C dL_law_2396 ?_
  refine T_iadd (pc := 2397) C dL_law_2397 ?_
  refine T_sld sx (pc := 2398) C hsl g1 dL_law_2398 ?_
  refine T_aload_n (pc := 2399) C dL_law_2399 rfl 1 rfl ?_
  refine T_iload (pc := 2400) C dL_law_2400 6 rfl ?_
  refine T_iconst (pc := 2402) C dL_law_2402 ?_
  refine T_iadd (pc := 2403) C dL_law_2403 ?_
  refine T_sld sx (pc := 2404) C hsl g2 dL_law_2404 ?_
  refine T_lmi (pc := 2405) C [vi (scv xs (i + 1)), vi (scv xs (i + 2))] [] (fun o h9 hw => ct_X13_smallestCut N v3.1.2.1 (scv xs (i + 1)) (scv xs (i + 2)) (scv_rng _ _) (scv_rng _ _) hw o h9) kq_68 cm_X13_smallestCut rcm rfl rfl (Nat.le_of_ble_eq_true rfl) ⟨⟨by decide, by decide⟩, by show _ + 0 ≤ room_1.cells; have := rmC1; omega, by show _ + 0 ≤ room_1.slots; have := rmS1; omega⟩ (a' := a + 1) (b' := bb + 6) ⟨rfl, rfl⟩ dL_law_2405 (fun v4 hv4 => ?_)
  refine T_istore (pc := 2408) (L' := [(7, vi v4.2), (6, vi v3.2), (0, .ref sc), (1, .ref (adc 0)), (2, .ref (adm 0)), (3, .ref (adm 11)), (4, .ref (adm 12)), (5, vi i)]) C dL_law_2408 (Nat.le_of_ble_eq_true rfl) rfl ?_
  refine T_aload_n (pc := 2410) C dL_law_2410 rfl 4 rfl ?_
  refine T_lmp (pc := 2411) C [] [] (fun o h9 hw => ct_X13_thrown (v3.1.1, v4.1, v3.1.2.2).2.1 hw o h9) kq_2 cm_X13_thrown rcm rfl rfl (Nat.le_of_ble_eq_true rfl) ⟨⟨by decide, by decide⟩, by show _ + 0 ≤ room_1.cells; have := rmC1; omega, by show _ + 0 ≤ room_1.slots; have := rmS1; omega⟩ (a' := a + 1) (b' := bb + 6) ⟨rfl, rfl⟩ dL_law_2411 (fun v5 hv5 => ?_)
  refine T_iload (pc := 2414) C dL_law_2414 1 rfl ?_
  refine T_icmp_eq (pc := 2416) C 2421 dL_law_2416 rfl hv5.1 hv3 (fun c6 => ?_) (fun c6 => ?_)
  · refine T_iload (pc := 2421) C dL_law_2421 1 rfl ?_
    refine T_if_ne (pc := 2423) C 2438 dL_law_2423 rfl hv3 (fun c7 => ?_) (fun c7 => ?_)
    · refine T_goto (pc := 2438) C 3728 dL_law_2438 rfl ?_
      refine T_iinc (pc := 3728) (L' := [(5, vi (i + 5)), (7, vi v4.2), (6, vi v3.2), (0, .ref sc), (1, .ref (adc 0)), (2, .ref (adm 0)), (3, .ref (adm 11)), (4, .ref (adm 12))]) C dL_law_3728 (Nat.le_of_ble_eq_true rfl) 7 rfl rfl ?_
      refine T_goto (pc := 3731) C 28 dL_law_3731 rfl ?_
      refine T_sub (L' := [(0, .ref sc), (1, .ref (adc 0)), (2, .ref (adm 0)), (3, .ref (adm 11)), (4, .ref (adm 12)), (5, vi (i + 5))]) [3, 4, 5, 6, 7, 0] rfl ?_
      exact ih (v3.1.1, v4.1, v3.1.2.2) (i + 5) _ _ (by unfold rng; omega) (stp (c := 1) ha (by decide)) (stp (c := 6) hb (by decide))
    · refine T_aload_n (pc := 2426) C dL_law_2426 rfl 5 rfl ?_
      refine T_iconst (pc := 2427) C dL_law_2427 ?_
      refine T_lald (pc := 2428) C dL_law_2428 (fun o8 => ?_)
      refine T_iload (pc := 2429) C dL_law_2429 0 rfl ?_
      refine T_i2l (pc := 2431) C hv4.1 dL_law_2431 ?_
      refine T_lcmp (pc := 2432) C o8 hv4.1 dL_law_2432 ?_
      refine T_if_eq (pc := 2433) C 2438 dL_law_2433 rfl (lcm_rng _ _) (fun c9 => ?_) (fun c9 => ?_)
      · refine T_goto (pc := 2438) C 3728 dL_law_2438 rfl ?_
        refine T_iinc (pc := 3728) (L' := [(5, vi (i + 5)), (7, vi v4.2), (6, vi v3.2), (0, .ref sc), (1, .ref (adc 0)), (2, .ref (adm 0)), (3, .ref (adm 11)), (4, .ref (adm 12))]) C dL_law_3728 (Nat.le_of_ble_eq_true rfl) 7 rfl rfl ?_
        refine T_goto (pc := 3731) C 28 dL_law_3731 rfl ?_
        refine T_sub (L' := [(0, .ref sc), (1, .ref (adc 0)), (2, .ref (adm 0)), (3, .ref (adm 11)), (4, .ref (adm 12)), (5, vi (i + 5))]) [3, 4, 5, 6, 7, 0] rfl ?_
        exact ih (v3.1.1, v4.1, v3.1.2.2) (i + 5) _ _ (by unfold rng; omega) (stp (c := 1) ha (by decide)) (stp (c := 6) hb (by decide))
      · refine T_iconst (pc := 2436) C dL_law_2436 ?_
        exact T_none
  · refine T_iconst (pc := 2419) C dL_law_2419 ?_
    exact T_none
noncomputable def f_law_34 (sq : Nat) (xs : Nat → Int32) (N : Nat) (rec : SL → Int → Option Unit) (σ : SL) (i : Int) : Option Unit :=
  if 0 ≤ (i + 1) ∧ (i + 1) < (sq : Int) then if 0 ≤ (i + 2) ∧ (i + 2) < (sq : Int) then if 0 ≤ (i + 3) ∧ (i + 3) < (sq : Int) then if 0 ≤ (i + 4) ∧ (i + 4) < (sq : Int) then (f_L_freeSeats N σ (scv xs (i + 1)) (scv xs (i + 2)) (scv xs (i + 3)) (scv xs (i + 4))).bind fun v5 => (f_X13_freeSeats N v5.1.2.1 (scv xs (i + 1)) (scv xs (i + 2)) (scv xs (i + 3)) (scv xs (i + 4))).bind fun v6 => (f_X13_thrown (v5.1.1, v6.1, v5.1.2.2).2.1).bind fun v7 => (if v7 = v5.2 then (if v5.2 = 0 then (if (lcm ((v5.1.1, v6.1, v5.1.2.2).2.2.1) v6.2) = 0 then rec (v5.1.1, v6.1, v5.1.2.2) (i + 5) else none) else rec (v5.1.1, v6.1, v5.1.2.2) (i + 5)) else none) else none else none else none else none
theorem lc_34 {X : vjX} {A : Nat → Prop} {Q : State → Prop} {cy : Nat → ClassId} {adc adm : Nat → Nat} {E : Nat → Nat → Nat} {G : va_G} {Z : vZ} {sa : Nat → Nat} {sc sq : Nat} {xs : Nat → Int32} (zk : Zk Z E) (zy : Zy Z E sa) (zs : ZS Z E) (zE : ZE Z) (zp : ZP Z) (zd : ZD Z E) (hst : X.2.1.stackTraces = false) (hZ : Zx Z X (YL cy adc adm E G A 9 Q)) (sx : SX X A sc sq xs) (hL : sq ≤ 2560) (C : Cx X (YL cy adc adm E G A 9 Q) cL_law RL (some .boolean) room_1 (tyL cy)) (N : Nat) (n : Nat) (rec : SL → Int → Option Unit) (ih : ∀ (σ : SL) (i : Int) (a bb : Nat), rng i → a + n * 1000 ≤ 600000 → bb + n * 13000 ≤ 7200000 → T X (YL cy adc adm E G A 9 Q) (fun (_ : Unit) => ∀ (q : SL) (a bb : Nat), a ≤ 600000 → bb ≤ 7200000 → J X (YL cy adc adm E G A 9 Q) a bb 3734 [] [] q) a bb 28 [(0, .ref sc), (1, .ref (adc 0)), (2, .ref (adm 0)), (3, .ref (adm 11)), (4, .ref (adm 12)), (5, vi i)] [] σ (rec σ i)) (σ : SL) (i : Int) (a bb : Nat) (hi : rng i) (hi0 : 0 ≤ i ∧ i < (sq : Int)) (ha : a + (n + 1) * 1000 ≤ 600000) (hb : bb + (n + 1) * 13000 ≤ 7200000) : T X (YL cy adc adm E G A 9 Q) (fun (_ : Unit) => ∀ (q : SL) (a bb : Nat), a ≤ 600000 → bb ≤ 7200000 → J X (YL cy adc adm E G A 9 Q) a bb 3734 [] [] q) a bb 2441 [(0, .ref sc), (1, .ref (adc 0)), (2, .ref (adm 0)), (3, .ref (adm 11)), (4, .ref (adm 12)), (5, vi i)] [] σ (f_law_34 sq xs N rec σ i) := by
  have hsl : sq ≤ 2147483647 := by omega
  have hsq : rng (sq : Int) := by unfold rng; omega
  unfold f_law_34
  refine T_aload_n (pc := 2441) C dL_law_2441 rfl 1 rfl ?_
  refine T_aload_n (pc := 2442) C dL_law_2442 rfl 0 rfl ?_
  refine T_iload (pc := 2443) C dL_law_2443 5 rfl ?_
  refine T_iconst (pc := 2445) C dL_law_2445 ?_
  refine T_iadd (pc := 2446) C dL_law_2446 ?_
  refine T_guard (fun g1 => ?_)
  refine T_sld sx (pc := 2447) C hsl g1 dL_law_2447 ?_
  refine T_aload_n (pc := 2448) C dL_law_2448 rfl 0 rfl ?_
  refine T_iload (pc := 2449) C dL_law_2449 5 rfl ?_
  refine T_iconst (pc := 2451) C dL_law_2451 ?_
  refine T_iadd (pc := 2452) C dL_law_2452 ?_
  refine T_guard (fun g2 => ?_)
  refine T_sld sx (pc := 2453) C hsl g2 dL_law_2453 ?_
  refine T_aload_n (pc := 2454) C dL_law_2454 rfl 0 rfl ?_
  refine T_iload (pc := 2455) C dL_law_2455 5 rfl ?_
  refine T_iconst (pc := 2457) C dL_law_2457 ?_
  refine T_iadd (pc := 2458) C dL_law_2458 ?_
  refine T_guard (fun g3 => ?_)
  refine T_sld sx (pc := 2459) C hsl g3 dL_law_2459 ?_
  refine T_aload_n (pc := 2460) C dL_law_2460 rfl 0 rfl ?_
  refine T_iload (pc := 2461) C dL_law_2461 5 rfl ?_
  refine T_iconst (pc := 2463) C dL_law_2463 ?_
  refine T_iadd (pc := 2464) C dL_law_2464 ?_
  refine T_guard (fun g4 => ?_)
  refine T_sld sx (pc := 2465) C hsl g4 dL_law_2465 ?_
  refine T_aload_n (pc := 2466) C dL_law_2466 rfl 3 rfl ?_
  refine T_lh (pc := 2467) zk.1 hZ C [.ref (adc 0), vi (scv xs (i + 1)), vi (scv xs (i + 2)), vi (scv xs (i + 3)), vi (scv xs (i + 4)), .ref (adm 11)] [] (fun o h9 hw => ct_L_freeSeats zk zy zs zE hst N σ (scv xs (i + 1)) (scv xs (i + 2)) (scv xs (i + 3)) (scv xs (i + 4)) (scv_rng _ _) (scv_rng _ _) (scv_rng _ _) (scv_rng _ _) hw o h9) kq_69 cm_L_freeSeats rfl rfl (Nat.le_of_ble_eq_true rfl) ⟨⟨by decide, by decide⟩, by show _ + 1 ≤ room_1.cells; have := rmC1; omega, by show _ + 6 ≤ room_1.slots; have := rmS1; omega⟩ (a' := a + 1) (b' := bb + 6) ⟨rfl, rfl⟩ dL_law_2467 (fun v5 hv5 => ?_)
  refine T_istore (pc := 2470) (L' := [(6, vi v5.2), (0, .ref sc), (1, .ref (adc 0)), (2, .ref (adm 0)), (3, .ref (adm 11)), (4, .ref (adm 12)), (5, vi i)]) C dL_law_2470 (Nat.le_of_ble_eq_true rfl) rfl ?_
  refine T_aload_n (pc := 2472) C dL_law_2472 rfl 3 rfl ?_
  refine T_aload_n (pc := 2473) C dL_law_2473 rfl 1 rfl ?_
  refine T_iload (pc := 2474) C dL_law_2474 6 rfl ?_
  refine T_iconst (pc := 2476) C dL_law_2476 ?_
  refine T_iadd (pc := 2477) C dL_law_2477 ?_
  refine T_sld sx (pc := 2478) C hsl g1 dL_law_2478 ?_
  refine T_aload_n (pc := 2479) C dL_law_2479 rfl 1 rfl ?_
  refine T_iload (pc := 2480) C dL_law_2480 6 rfl ?_
  refine T_iconst (pc := 2482) C dL_law_2482 ?_
  refine T_iadd (pc := 2483) C dL_law_2483 ?_
  refine T_sld sx (pc := 2484) C hsl g2 dL_law_2484 ?_
  refine T_aload_n (pc := 2485) C dL_law_2485 rfl 1 rfl ?_
  refine T_iload (pc := 2486) C dL_law_2486 6 rfl ?_
  refine T_iconst (pc := 2488) C dL_law_2488 ?_
  refine T_iadd (pc := 2489) C dL_law_2489 ?_
  refine T_sld sx (pc := 2490) C hsl g3 dL_law_2490 ?_
  refine T_aload_n (pc := 2491) C dL_law_2491 rfl 1 rfl ?_
  refine T_iload (pc := 2492) C dL_law_2492 6 rfl ?_
  refine T_iconst (pc := 2494) C dL_law_2494 ?_
  refine T_iadd (pc := 2495) C dL_law_2495 ?_
  refine T_sld sx (pc := 2496) C hsl g4 dL_law_2496 ?_
  refine T_lmi (pc := 2497) C [vi (scv xs (i + 1)), vi (scv xs (i + 2)), vi (scv xs (i + 3)), vi (scv xs (i + 4))] [] (fun o h9 hw => ct_X13_freeSeats N v5.1.2.1 (scv xs (i + 1)) (scv xs (i + 2)) (scv xs (i + 3)) (scv xs (i + 4)) (scv_rng _ _) (scv_rng _ _) (scv_rng _ _) (scv_rng _ _) hw o h9) kq_70 cm_X13_freeSeats rcm rfl rfl (Nat.le_of_ble_eq_true rfl) ⟨⟨by decide, by decide⟩, by show _ + 0 ≤ room_1.cells; have := rmC1; omega, by show _ + 0 ≤ room_1.slots; have := rmS1; omega⟩ (a' := a + 1) (b' := bb + 6) ⟨rfl, rfl⟩ dL_law_2497 (fun v6 hv6 => ?_)
  refine T_istore (pc := 2500) (L' := [(7, vi v6.2), (6, vi v5.2), (0, .ref sc), (1, .ref (adc 0)), (2, .ref (adm 0)), (3, .ref (adm 11)), (4, .ref (adm 12)), (5, vi i)]) C dL_law_2500 (Nat.le_of_ble_eq_true rfl) rfl ?_
  refine T_aload_n (pc := 2502) C dL_law_2502 rfl 4 rfl ?_
  refine T_lmp (pc := 2503) C [] [] (fun o h9 hw => ct_X13_thrown (v5.1.1, v6.1, v5.1.2.2).2.1 hw o h9) kq_2 cm_X13_thrown rcm rfl rfl (Nat.le_of_ble_eq_true rfl) ⟨⟨by decide, by decide⟩, by show _ + 0 ≤ room_1.cells; have := rmC1; omega, by show _ + 0 ≤ room_1.slots; have := rmS1; omega⟩ (a' := a + 1) (b' := bb + 6) ⟨rfl, rfl⟩ dL_law_2503 (fun v7 hv7 => ?_)
  refine T_iload (pc := 2506) C dL_law_2506 1 rfl ?_
  refine T_icmp_eq (pc := 2508) C 2513 dL_law_2508 rfl hv7.1 hv5 (fun c8 => ?_) (fun c8 => ?_)
  · refine T_iload (pc := 2513) C dL_law_2513 1 rfl ?_
    refine T_if_ne (pc := 2515) C 2530 dL_law_2515 rfl hv5 (fun c9 => ?_) (fun c9 => ?_)
    · refine T_goto (pc := 2530) C 3728 dL_law_2530 rfl ?_
      refine T_iinc (pc := 3728) (L' := [(5, vi (i + 5)), (7, vi v6.2), (6, vi v5.2), (0, .ref sc), (1, .ref (adc 0)), (2, .ref (adm 0)), (3, .ref (adm 11)), (4, .ref (adm 12))]) C dL_law_3728 (Nat.le_of_ble_eq_true rfl) 7 rfl rfl ?_
      refine T_goto (pc := 3731) C 28 dL_law_3731 rfl ?_
      refine T_sub (L' := [(0, .ref sc), (1, .ref (adc 0)), (2, .ref (adm 0)), (3, .ref (adm 11)), (4, .ref (adm 12)), (5, vi (i + 5))]) [3, 4, 5, 6, 7, 0] rfl ?_
      exact ih (v5.1.1, v6.1, v5.1.2.2) (i + 5) _ _ (by unfold rng; omega) (stp (c := 1) ha (by decide)) (stp (c := 6) hb (by decide))
    · refine T_aload_n (pc := 2518) C dL_law_2518 rfl 5 rfl ?_
      refine T_iconst (pc := 2519) C dL_law_2519 ?_
      refine T_lald (pc := 2520) C dL_law_2520 (fun o10 => ?_)
      refine T_iload (pc := 2521) C dL_law_2521 0 rfl ?_
      refine T_i2l (pc := 2523) C hv6.1 dL_law_2523 ?_
      refine T_lcmp (pc := 2524) C o10 hv6.1 dL_law_2524 ?_
      refine T_if_eq (pc := 2525) C 2530 dL_law_2525 rfl (lcm_rng _ _) (fun c11 => ?_) (fun c11 => ?_)
      · refine T_goto (pc := 2530) C 3728 dL_law_2530 rfl ?_
        refine T_iinc (pc := 3728) (L' := [(5, vi (i + 5)), (7, vi v6.2), (6, vi v5.2), (0, .ref sc), (1, .ref (adc 0)), (2, .ref (adm 0)), (3, .ref (adm 11)), (4, .ref (adm 12))]) C dL_law_3728 (Nat.le_of_ble_eq_true rfl) 7 rfl rfl ?_
        refine T_goto (pc := 3731) C 28 dL_law_3731 rfl ?_
        refine T_sub (L' := [(0, .ref sc), (1, .ref (adc 0)), (2, .ref (adm 0)), (3, .ref (adm 11)), (4, .ref (adm 12)), (5, vi (i + 5))]) [3, 4, 5, 6, 7, 0] rfl ?_
        exact ih (v5.1.1, v6.1, v5.1.2.2) (i + 5) _ _ (by unfold rng; omega) (stp (c := 1) ha (by decide)) (stp (c := 6) hb (by decide))
      · refine T_iconst (pc := 2528) C dL_law_2528 ?_
        exact T_none
  · refine T_iconst (pc := 2511) C dL_law_2511 ?_
    exact T_none
noncomputable def f_law_35 (sq : Nat) (xs : Nat → Int32) (N : Nat) (rec : SL → Int → Option Unit) (σ : SL) (i : Int) : Option Unit :=
  if 0 ≤ (i + 1) ∧ (i + 1) < (sq : Int) then if 0 ≤ (i + 2) ∧ (i + 2) < (sq : Int) then if 0 ≤ (i + 3) ∧ (i + 3) < (sq : Int) then if 0 ≤ (i + 4) ∧ (i + 4) < (sq : Int) then (f_L_freeSeatsBySweep N σ (scv xs (i + 1)) (scv xs (i + 2)) (scv xs (i + 3)) (scv xs (i + 4))).bind fun v5 => (f_X13_freeSeatsBySweep N v5.1.2.1 (scv xs (i + 1)) (scv xs (i + 2)) (scv xs (i + 3)) (scv xs (i + 4))).bind fun v6 => (f_X13_thrown (v5.1.1, v6.1, v5.1.2.2).2.1).bind fun v7 => (if v7 = v5.2 then (if v5.2 = 0 then (if (lcm ((v5.1.1, v6.1, v5.1.2.2).2.2.1) v6.2) = 0 then rec (v5.1.1, v6.1, v5.1.2.2) (i + 5) else none) else rec (v5.1.1, v6.1, v5.1.2.2) (i + 5)) else none) else none else none else none else none
theorem lc_35 {X : vjX} {A : Nat → Prop} {Q : State → Prop} {cy : Nat → ClassId} {adc adm : Nat → Nat} {E : Nat → Nat → Nat} {G : va_G} {Z : vZ} {sa : Nat → Nat} {sc sq : Nat} {xs : Nat → Int32} (zk : Zk Z E) (zy : Zy Z E sa) (zs : ZS Z E) (zE : ZE Z) (zp : ZP Z) (zd : ZD Z E) (hst : X.2.1.stackTraces = false) (hZ : Zx Z X (YL cy adc adm E G A 9 Q)) (sx : SX X A sc sq xs) (hL : sq ≤ 2560) (C : Cx X (YL cy adc adm E G A 9 Q) cL_law RL (some .boolean) room_1 (tyL cy)) (N : Nat) (n : Nat) (rec : SL → Int → Option Unit) (ih : ∀ (σ : SL) (i : Int) (a bb : Nat), rng i → a + n * 1000 ≤ 600000 → bb + n * 13000 ≤ 7200000 → T X (YL cy adc adm E G A 9 Q) (fun (_ : Unit) => ∀ (q : SL) (a bb : Nat), a ≤ 600000 → bb ≤ 7200000 → J X (YL cy adc adm E G A 9 Q) a bb 3734 [] [] q) a bb 28 [(0, .ref sc), (1, .ref (adc 0)), (2, .ref (adm 0)), (3, .ref (adm 11)), (4, .ref (adm 12)), (5, vi i)] [] σ (rec σ i)) (σ : SL) (i : Int) (a bb : Nat) (hi : rng i) (hi0 : 0 ≤ i ∧ i < (sq : Int)) (ha : a + (n + 1) * 1000 ≤ 600000) (hb : bb + (n + 1) * 13000 ≤ 7200000) : T X (YL cy adc adm E G A 9 Q) (fun (_ : Unit) => ∀ (q : SL) (a bb : Nat), a ≤ 600000 → bb ≤ 7200000 → J X (YL cy adc adm E G A 9 Q) a bb 3734 [] [] q) a bb 2533 [(0, .ref sc), (1, .ref (adc 0)), (2, .ref (adm 0)), (3, .ref (adm 11)), (4, .ref (adm 12)), (5, vi i)] [] σ (f_law_35 sq xs N rec σ i) := by
  have hsl : sq ≤ 2147483647 := by omega
  have hsq : rng (sq : Int) := by unfold rng; omega
  unfold f_law_35
  refine T_aload_n (pc := 2533) C dL_law_2533 rfl 1 rfl ?_
  refine T_aload_n (pc := 2534) C dL_law_2534 rfl 0 rfl ?_
  refine T_iload (pc := 2535) C dL_law_2535 5 rfl ?_
  refine T_iconst (pc := 2537) C dL_law_2537 ?_
  refine T_iadd (pc := 2538) C dL_law_2538 ?_
  refine T_guard (fun g1 => ?_)
  refine T_sld sx (pc := 2539) C hsl g1 dL_law_2539 ?_
  refine T_aload_n (pc := 2540) C dL_law_2540 rfl 0 rfl ?_
  refine T_iload (pc := 2541) C dL_law_2541 5 rfl ?_
  refine T_iconst (pc := 2543) C dL_law_2543 ?_
  refine T_iadd (pc := 2544) C dL_law_2544 ?_
  refine T_guard (fun g2 => ?_)
  refine T_sld sx (pc := 2545) C hsl g2 dL_law_2545 ?_
  refine T_aload_n (pc := 2546) C dL_law_2546 rfl 0 rfl ?_
  refine T_iload (pc := 2547) C dL_law_2547 5 rfl ?_
  refine T_iconst (pc := 2549) C dL_law_2549 ?_
  refine T_iadd (pc := 2550) C dL_law_2550 ?_
  refine T_guard (fun g3 => ?_)
  refine T_sld sx (pc := 2551) C hsl g3 dL_law_2551 ?_
  refine T_aload_n (pc := 2552) C dL_law_2552 rfl 0 rfl ?_
  refine T_iload (pc := 2553) C dL_law_2553 5 rfl ?_
  refine T_iconst (pc := 2555) C dL_law_2555 ?_
  refine T_iadd (pc := 2556) C dL_law_2556 ?_
  refine T_guard (fun g4 => ?_)
  refine T_sld sx (pc := 2557) C hsl g4 dL_law_2557 ?_
  refine T_aload_n (pc := 2558) C dL_law_2558 rfl 3 rfl ?_
  refine T_lh (pc := 2559) zk.1 hZ C [.ref (adc 0), vi (scv xs (i + 1)), vi (scv xs (i + 2)), vi (scv xs (i + 3)), vi (scv xs (i + 4)), .ref (adm 11)] [] (fun o h9 hw => ct_L_freeSeatsBySweep zk zy zs zE hst N σ (scv xs (i + 1)) (scv xs (i + 2)) (scv xs (i + 3)) (scv xs (i + 4)) (scv_rng _ _) (scv_rng _ _) (scv_rng _ _) (scv_rng _ _) hw o h9) kq_71 cm_L_freeSeatsBySweep rfl rfl (Nat.le_of_ble_eq_true rfl) ⟨⟨by decide, by decide⟩, by show _ + 1 ≤ room_1.cells; have := rmC1; omega, by show _ + 6 ≤ room_1.slots; have := rmS1; omega⟩ (a' := a + 1) (b' := bb + 6) ⟨rfl, rfl⟩ dL_law_2559 (fun v5 hv5 => ?_)
  refine T_istore (pc := 2562) (L' := [(6, vi v5.2), (0, .ref sc), (1, .ref (adc 0)), (2, .ref (adm 0)), (3, .ref (adm 11)), (4, .ref (adm 12)), (5, vi i)]) C dL_law_2562 (Nat.le_of_ble_eq_true rfl) rfl ?_
  refine T_aload_n (pc := 2564) C dL_law_2564 rfl 3 rfl ?_
  refine T_aload_n (pc := 2565) C dL_law_2565 rfl 1 rfl ?_
  refine T_iload (pc := 2566) C dL_law_2566 6 rfl ?_
  refine T_iconst (pc := 2568) C dL_law_2568 ?_
  refine T_iadd (pc := 2569) C dL_law_2569 ?_
  refine T_sld sx (pc := 2570) C hsl g1 dL_law_2570 ?_
  refine T_aload_n (pc := 2571) C dL_law_2571 rfl 1 rfl ?_
  refine T_iload (pc := 2572) C dL_law_2572 6 rfl ?_
  refine T_iconst (pc := 2574) C dL_law_2574 ?_
  refine T_iadd (pc := 2575) C dL_law_2575 ?_
  refine T_sld sx (pc := 2576) C hsl g2 dL_law_2576 ?_
  refine T_aload_n (pc := 2577) C dL_law_2577 rfl 1 rfl ?_
  refine T_iload (pc := 2578) C dL_law_2578 6 rfl ?_
  refine T_iconst (pc := 2580) C dL_law_2580 ?_
  refine T_iadd (pc := 2581) C dL_law_2581 ?_
  refine T_sld sx (pc := 2582) C hsl g3 dL_law_2582 ?_
  refine T_aload_n (pc := 2583) C dL_law_2583 rfl 1 rfl ?_
  refine T_iload (pc := 2584) C dL_law_2584 6 rfl ?_
  refine T_iconst (pc := 2586) C dL_law_2586 ?_
  refine T_iadd (pc := 2587) C dL_law_2587 ?_
  refine T_sld sx (pc := 2588) C hsl g4 dL_law_2588 ?_
  refine T_lmi (pc := 2589) C [vi (scv xs (i + 1)), vi (scv xs (i + 2)), vi (scv xs (i + 3)), vi (scv xs (i + 4))] [] (fun o h9 hw => ct_X13_freeSeatsBySweep N v5.1.2.1 (scv xs (i + 1)) (scv xs (i + 2)) (scv xs (i + 3)) (scv xs (i + 4)) (scv_rng _ _) (scv_rng _ _) (scv_rng _ _) (scv_rng _ _) hw o h9) kq_72 cm_X13_freeSeatsBySweep rcm rfl rfl (Nat.le_of_ble_eq_true rfl) ⟨⟨by decide, by decide⟩, by show _ + 0 ≤ room_1.cells; have := rmC1; omega, by show _ + 0 ≤ room_1.slots; have := rmS1; omega⟩ (a' := a + 1) (b' := bb + 6) ⟨rfl, rfl⟩ dL_law_2589 (fun v6 hv6 => ?_)
  refine T_istore (pc := 2592) (L' := [(7, vi v6.2), (6, vi v5.2), (0, .ref sc), (1, .ref (adc 0)), (2, .ref (adm 0)), (3, .ref (adm 11)), (4, .ref (adm 12)), (5, vi i)]) C dL_law_2592 (Nat.le_of_ble_eq_true rfl) rfl ?_
  refine T_aload_n (pc := 2594) C dL_law_2594 rfl 4 rfl ?_
  refine T_lmp (pc := 2595) C [] [] (fun o h9 hw => ct_X13_thrown (v5.1.1, v6.1, v5.1.2.2).2.1 hw o h9) kq_2 cm_X13_thrown rcm rfl rfl (Nat.le_of_ble_eq_true rfl) ⟨⟨by decide, by decide⟩, by show _ + 0 ≤ room_1.cells; have := rmC1; omega, by show _ + 0 ≤ room_1.slots; have := rmS1; omega⟩ (a' := a + 1) (b' := bb + 6) ⟨rfl, rfl⟩ dL_law_2595 (fun v7 hv7 => ?_)
  refine T_iload (pc := 2598) C dL_law_2598 1 rfl ?_
  refine T_icmp_eq (pc := 2600) C 2605 dL_law_2600 rfl hv7.1 hv5 (fun c8 => ?_) (fun c8 => ?_)
  · refine T_iload (pc := 2605) C dL_law_2605 1 rfl ?_
    refine T_if_ne (pc := 2607) C 2622 dL_law_2607 rfl hv5 (fun c9 => ?_) (fun c9 => ?_)
    · refine T_goto (pc := 2622) C 3728 dL_law_2622 rfl ?_
      refine T_iinc (pc := 3728) (L' := [(5, vi (i + 5)), (7, vi v6.2), (6, vi v5.2), (0, .ref sc), (1, .ref (adc 0)), (2, .ref (adm 0)), (3, .ref (adm 11)), (4, .ref (adm 12))]) C dL_law_3728 (Nat.le_of_ble_eq_true rfl) 7 rfl rfl ?_
      refine T_goto (pc := 3731) C 28 dL_law_3731 rfl ?_
      refine T_sub (L' := [(0, .ref sc), (1, .ref (adc 0)), (2, .ref (adm 0)), (3, .ref (adm 11)), (4, .ref (adm 12)), (5, vi (i + 5))]) [3, 4, 5, 6, 7, 0] rfl ?_
      exact ih (v5.1.1, v6.1, v5.1.2.2) (i + 5) _ _ (by unfold rng; omega) (stp (c := 1) ha (by decide)) (stp (c := 6) hb (by decide))
    · refine T_aload_n (pc := 2610) C dL_law_2610 rfl 5 rfl ?_
      refine T_iconst (pc := 2611) C dL_law_2611 ?_
      refine T_lald (pc := 2612) C dL_law_2612 (fun o10 => ?_)
      refine T_iload (pc := 2613) C dL_law_2613 0 rfl ?_
      refine T_i2l (pc := 2615) C hv6.1 dL_law_2615 ?_
      refine T_lcmp (pc := 2616) C o10 hv6.1 dL_law_2616 ?_
      refine T_if_eq (pc := 2617) C 2622 dL_law_2617 rfl (lcm_rng _ _) (fun c11 => ?_) (fun c11 => ?_)
      · refine T_goto (pc := 2622) C 3728 dL_law_2622 rfl ?_
        refine T_iinc (pc := 3728) (L' := [(5, vi (i + 5)), (7, vi v6.2), (6, vi v5.2), (0, .ref sc), (1, .ref (adc 0)), (2, .ref (adm 0)), (3, .ref (adm 11)), (4, .ref (adm 12))]) C dL_law_3728 (Nat.le_of_ble_eq_true rfl) 7 rfl rfl ?_
        refine T_goto (pc := 3731) C 28 dL_law_3731 rfl ?_
        refine T_sub (L' := [(0, .ref sc), (1, .ref (adc 0)), (2, .ref (adm 0)), (3, .ref (adm 11)), (4, .ref (adm 12)), (5, vi (i + 5))]) [3, 4, 5, 6, 7, 0] rfl ?_
        exact ih (v5.1.1, v6.1, v5.1.2.2) (i + 5) _ _ (by unfold rng; omega) (stp (c := 1) ha (by decide)) (stp (c := 6) hb (by decide))
      · refine T_iconst (pc := 2620) C dL_law_2620 ?_
        exact T_none
  · refine T_iconst (pc := 2603) C dL_law_2603 ?_
    exact T_none
noncomputable def f_law_36 (sq : Nat) (xs : Nat → Int32) (N : Nat) (rec : SL → Int → Option Unit) (σ : SL) (i : Int) : Option Unit :=
  (f_X12_ticketCount σ.1).bind fun v1 => (f_X13_ticketCount σ.2.1).bind fun v2 => (if v1 = v2.2 then rec (σ.1, v2.1, σ.2.2) (i + 5) else none)
theorem lc_36 {X : vjX} {A : Nat → Prop} {Q : State → Prop} {cy : Nat → ClassId} {adc adm : Nat → Nat} {E : Nat → Nat → Nat} {G : va_G} {Z : vZ} {sa : Nat → Nat} {sc sq : Nat} {xs : Nat → Int32} (zk : Zk Z E) (zy : Zy Z E sa) (zs : ZS Z E) (zE : ZE Z) (zp : ZP Z) (zd : ZD Z E) (hst : X.2.1.stackTraces = false) (hZ : Zx Z X (YL cy adc adm E G A 9 Q)) (sx : SX X A sc sq xs) (hL : sq ≤ 2560) (C : Cx X (YL cy adc adm E G A 9 Q) cL_law RL (some .boolean) room_1 (tyL cy)) (N : Nat) (n : Nat) (rec : SL → Int → Option Unit) (ih : ∀ (σ : SL) (i : Int) (a bb : Nat), rng i → a + n * 1000 ≤ 600000 → bb + n * 13000 ≤ 7200000 → T X (YL cy adc adm E G A 9 Q) (fun (_ : Unit) => ∀ (q : SL) (a bb : Nat), a ≤ 600000 → bb ≤ 7200000 → J X (YL cy adc adm E G A 9 Q) a bb 3734 [] [] q) a bb 28 [(0, .ref sc), (1, .ref (adc 0)), (2, .ref (adm 0)), (3, .ref (adm 11)), (4, .ref (adm 12)), (5, vi i)] [] σ (rec σ i)) (σ : SL) (i : Int) (a bb : Nat) (hi : rng i) (hi0 : 0 ≤ i ∧ i < (sq : Int)) (ha : a + (n + 1) * 1000 ≤ 600000) (hb : bb + (n + 1) * 13000 ≤ 7200000) : T X (YL cy adc adm E G A 9 Q) (fun (_ : Unit) => ∀ (q : SL) (a bb : Nat), a ≤ 600000 → bb ≤ 7200000 → J X (YL cy adc adm E G A 9 Q) a bb 3734 [] [] q) a bb 2625 [(0, .ref sc), (1, .ref (adc 0)), (2, .ref (adm 0)), (3, .ref (adm 11)), (4, .ref (adm 12)), (5, vi i)] [] σ (f_law_36 sq xs N rec σ i) := by
  have hsl : sq ≤ 2147483647 := by omega
  have hsq : rng (sq : Int) := by unfold rng; omega
  unfold f_law_36
  refine T_aload_n (pc := 2625) C dL_law_2625 rfl 1 rfl ?_
  refine T_lzp (pc := 2626) zk.1 hZ C [] [] (fun o h9 hw => ct_X12_ticketCount zk zy σ.1 hw o h9) kq_73 cm_X12_ticketCount (rcc (rfl : kd 0 = 12) (by decide) (fun _ => rfl) rfl) rfl rfl (Nat.le_of_ble_eq_true rfl) ⟨⟨by decide, by decide⟩, by show _ + 0 ≤ room_1.cells; have := rmC1; omega, by show _ + 0 ≤ room_1.slots; have := rmS1; omega⟩ (a' := a + 0) (b' := bb + 0) ⟨rfl, rfl⟩ dL_law_2626 (fun v1 hv1 => ?_)
  refine T_aload_n (pc := 2629) C dL_law_2629 rfl 2 rfl ?_
  refine T_lmi (pc := 2630) C [] [vi v1] (fun o h9 hw => ct_X13_ticketCount σ.2.1 hw o h9) kq_74 cm_X13_ticketCount rcm rfl rfl (Nat.le_of_ble_eq_true rfl) ⟨⟨by decide, by decide⟩, by show _ + 0 ≤ room_1.cells; have := rmC1; omega, by show _ + 0 ≤ room_1.slots; have := rmS1; omega⟩ (a' := a + 0) (b' := bb + 0) ⟨rfl, rfl⟩ dL_law_2630 (fun v2 hv2 => ?_)
  refine T_icmp_eq (pc := 2633) C 3728 dL_law_2633 rfl hv1.1 hv2.1 (fun c3 => ?_) (fun c3 => ?_)
  · refine T_iinc (pc := 3728) (L' := [(5, vi (i + 5)), (0, .ref sc), (1, .ref (adc 0)), (2, .ref (adm 0)), (3, .ref (adm 11)), (4, .ref (adm 12))]) C dL_law_3728 (Nat.le_of_ble_eq_true rfl) 5 rfl rfl ?_
    refine T_goto (pc := 3731) C 28 dL_law_3731 rfl ?_
    refine T_sub (L' := [(0, .ref sc), (1, .ref (adc 0)), (2, .ref (adm 0)), (3, .ref (adm 11)), (4, .ref (adm 12)), (5, vi (i + 5))]) [1, 2, 3, 4, 5, 0] rfl ?_
    exact ih (σ.1, v2.1, σ.2.2) (i + 5) _ _ (by unfold rng; omega) (stp (c := 0) ha (by decide)) (stp (c := 0) hb (by decide))
  · refine T_iconst (pc := 2636) C dL_law_2636 ?_
    exact T_none
noncomputable def f_law_37 (sq : Nat) (xs : Nat → Int32) (N : Nat) (rec : SL → Int → Option Unit) (σ : SL) (i : Int) : Option Unit :=
  if 0 ≤ (i + 1) ∧ (i + 1) < (sq : Int) then (f_L_ticketAt N σ (scv xs (i + 1))).bind fun v2 => (f_X13_ticketAt v2.1.2.1 (scv xs (i + 1))).bind fun v3 => (f_X13_thrown (v2.1.1, v3.1, v2.1.2.2).2.1).bind fun v4 => (if v4 = v2.2 then (if v2.2 = 0 then (if (lcm ((v2.1.1, v3.1, v2.1.2.2).2.2.1) v3.2) = 0 then rec (v2.1.1, v3.1, v2.1.2.2) (i + 5) else none) else rec (v2.1.1, v3.1, v2.1.2.2) (i + 5)) else none) else none
theorem lc_37 {X : vjX} {A : Nat → Prop} {Q : State → Prop} {cy : Nat → ClassId} {adc adm : Nat → Nat} {E : Nat → Nat → Nat} {G : va_G} {Z : vZ} {sa : Nat → Nat} {sc sq : Nat} {xs : Nat → Int32} (zk : Zk Z E) (zy : Zy Z E sa) (zs : ZS Z E) (zE : ZE Z) (zp : ZP Z) (zd : ZD Z E) (hst : X.2.1.stackTraces = false) (hZ : Zx Z X (YL cy adc adm E G A 9 Q)) (sx : SX X A sc sq xs) (hL : sq ≤ 2560) (C : Cx X (YL cy adc adm E G A 9 Q) cL_law RL (some .boolean) room_1 (tyL cy)) (N : Nat) (n : Nat) (rec : SL → Int → Option Unit) (ih : ∀ (σ : SL) (i : Int) (a bb : Nat), rng i → a + n * 1000 ≤ 600000 → bb + n * 13000 ≤ 7200000 → T X (YL cy adc adm E G A 9 Q) (fun (_ : Unit) => ∀ (q : SL) (a bb : Nat), a ≤ 600000 → bb ≤ 7200000 → J X (YL cy adc adm E G A 9 Q) a bb 3734 [] [] q) a bb 28 [(0, .ref sc), (1, .ref (adc 0)), (2, .ref (adm 0)), (3, .ref (adm 11)), (4, .ref (adm 12)), (5, vi i)] [] σ (rec σ i)) (σ : SL) (i : Int) (a bb : Nat) (hi : rng i) (hi0 : 0 ≤ i ∧ i < (sq : Int)) (ha : a + (n + 1) * 1000 ≤ 600000) (hb : bb + (n + 1) * 13000 ≤ 7200000) : T X (YL cy adc adm E G A 9 Q) (fun (_ : Unit) => ∀ (q : SL) (a bb : Nat), a ≤ 600000 → bb ≤ 7200000 → J X (YL cy adc adm E G A 9 Q) a bb 3734 [] [] q) a bb 2638 [(0, .ref sc), (1, .ref (adc 0)), (2, .ref (adm 0)), (3, .ref (adm 11)), (4, .ref (adm 12)), (5, vi i)] [] σ (f_law_37 sq xs N rec σ i) := by
  have hsl : sq ≤ 2147483647 := by omega
  have hsq : rng (sq : Int) := by unfold rng; omega
  unfold f_law_37
  refine T_aload_n (pc := 2638) C dL_law_2638 rfl 1 rfl ?_
  refine T_aload_n (pc := 2639) C dL_law_2639 rfl 0 rfl ?_
  refine T_iload (pc := 2640) C dL_law_2640 5 rfl ?_
  refine T_iconst (pc := 2642) C dL_law_2642 ?_
  refine T_iadd (pc := 2643) C dL_law_2643 ?_
  refine T_guard (fun g1 => ?_)
  refine T_sld sx (pc := 2644) C hsl g1 dL_law_2644 ?_
  refine T_aload_n (pc := 2645) C dL_law_2645 rfl 3 rfl ?_
  refine T_lh (pc := 2646) zk.1 hZ C [.ref (adc 0), vi (scv xs (i + 1)), .ref (adm 11)] [] (fun o h9 hw => ct_L_ticketAt zk zy zs zE hst N σ (scv xs (i + 1)) (scv_rng _ _) hw o h9) kq_75 cm_L_ticketAt rfl rfl (Nat.le_of_ble_eq_true rfl) ⟨⟨by decide, by decide⟩, by show _ + 1 ≤ room_1.cells; have := rmC1; omega, by show _ + 6 ≤ room_1.slots; have := rmS1; omega⟩ (a' := a + 1) (b' := bb + 6) ⟨rfl, rfl⟩ dL_law_2646 (fun v2 hv2 => ?_)
  refine T_istore (pc := 2649) (L' := [(6, vi v2.2), (0, .ref sc), (1, .ref (adc 0)), (2, .ref (adm 0)), (3, .ref (adm 11)), (4, .ref (adm 12)), (5, vi i)]) C dL_law_2649 (Nat.le_of_ble_eq_true rfl) rfl ?_
  refine T_aload_n (pc := 2651) C dL_law_2651 rfl 3 rfl ?_
  refine T_aload_n (pc := 2652) C dL_law_2652 rfl 1 rfl ?_
  refine T_iload (pc := 2653) C dL_law_2653 6 rfl ?_
  refine T_iconst (pc := 2655) C dL_law_2655 ?_
  refine T_iadd (pc := 2656) C dL_law_2656 ?_
  refine T_sld sx (pc := 2657) C hsl g1 dL_law_2657 ?_
  refine T_lmi (pc := 2658) C [vi (scv xs (i + 1))] [] (fun o h9 hw => ct_X13_ticketAt v2.1.2.1 (scv xs (i + 1)) (scv_rng _ _) hw o h9) kq_76 cm_X13_ticketAt rcm rfl rfl (Nat.le_of_ble_eq_true rfl) ⟨⟨by decide, by decide⟩, by show _ + 0 ≤ room_1.cells; have := rmC1; omega, by show _ + 0 ≤ room_1.slots; have := rmS1; omega⟩ (a' := a + 1) (b' := bb + 6) ⟨rfl, rfl⟩ dL_law_2658 (fun v3 hv3 => ?_)
  refine T_istore (pc := 2661) (L' := [(7, vi v3.2), (6, vi v2.2), (0, .ref sc), (1, .ref (adc 0)), (2, .ref (adm 0)), (3, .ref (adm 11)), (4, .ref (adm 12)), (5, vi i)]) C dL_law_2661 (Nat.le_of_ble_eq_true rfl) rfl ?_
  refine T_aload_n (pc := 2663) C dL_law_2663 rfl 4 rfl ?_
  refine T_lmp (pc := 2664) C [] [] (fun o h9 hw => ct_X13_thrown (v2.1.1, v3.1, v2.1.2.2).2.1 hw o h9) kq_2 cm_X13_thrown rcm rfl rfl (Nat.le_of_ble_eq_true rfl) ⟨⟨by decide, by decide⟩, by show _ + 0 ≤ room_1.cells; have := rmC1; omega, by show _ + 0 ≤ room_1.slots; have := rmS1; omega⟩ (a' := a + 1) (b' := bb + 6) ⟨rfl, rfl⟩ dL_law_2664 (fun v4 hv4 => ?_)
  refine T_iload (pc := 2667) C dL_law_2667 1 rfl ?_
  refine T_icmp_eq (pc := 2669) C 2674 dL_law_2669 rfl hv4.1 hv2 (fun c5 => ?_) (fun c5 => ?_)
  · refine T_iload (pc := 2674) C dL_law_2674 1 rfl ?_
    refine T_if_ne (pc := 2676) C 2691 dL_law_2676 rfl hv2 (fun c6 => ?_) (fun c6 => ?_)
    · refine T_goto (pc := 2691) C 3728 dL_law_2691 rfl ?_
      refine T_iinc (pc := 3728) (L' := [(5, vi (i + 5)), (7, vi v3.2), (6, vi v2.2), (0, .ref sc), (1, .ref (adc 0)), (2, .ref (adm 0)), (3, .ref (adm 11)), (4, .ref (adm 12))]) C dL_law_3728 (Nat.le_of_ble_eq_true rfl) 7 rfl rfl ?_
      refine T_goto (pc := 3731) C 28 dL_law_3731 rfl ?_
      refine T_sub (L' := [(0, .ref sc), (1, .ref (adc 0)), (2, .ref (adm 0)), (3, .ref (adm 11)), (4, .ref (adm 12)), (5, vi (i + 5))]) [3, 4, 5, 6, 7, 0] rfl ?_
      exact ih (v2.1.1, v3.1, v2.1.2.2) (i + 5) _ _ (by unfold rng; omega) (stp (c := 1) ha (by decide)) (stp (c := 6) hb (by decide))
    · refine T_aload_n (pc := 2679) C dL_law_2679 rfl 5 rfl ?_
      refine T_iconst (pc := 2680) C dL_law_2680 ?_
      refine T_lald (pc := 2681) C dL_law_2681 (fun o7 => ?_)
      refine T_iload (pc := 2682) C dL_law_2682 0 rfl ?_
      refine T_i2l (pc := 2684) C hv3.1 dL_law_2684 ?_
      refine T_lcmp (pc := 2685) C o7 hv3.1 dL_law_2685 ?_
      refine T_if_eq (pc := 2686) C 2691 dL_law_2686 rfl (lcm_rng _ _) (fun c8 => ?_) (fun c8 => ?_)
      · refine T_goto (pc := 2691) C 3728 dL_law_2691 rfl ?_
        refine T_iinc (pc := 3728) (L' := [(5, vi (i + 5)), (7, vi v3.2), (6, vi v2.2), (0, .ref sc), (1, .ref (adc 0)), (2, .ref (adm 0)), (3, .ref (adm 11)), (4, .ref (adm 12))]) C dL_law_3728 (Nat.le_of_ble_eq_true rfl) 7 rfl rfl ?_
        refine T_goto (pc := 3731) C 28 dL_law_3731 rfl ?_
        refine T_sub (L' := [(0, .ref sc), (1, .ref (adc 0)), (2, .ref (adm 0)), (3, .ref (adm 11)), (4, .ref (adm 12)), (5, vi (i + 5))]) [3, 4, 5, 6, 7, 0] rfl ?_
        exact ih (v2.1.1, v3.1, v2.1.2.2) (i + 5) _ _ (by unfold rng; omega) (stp (c := 1) ha (by decide)) (stp (c := 6) hb (by decide))
      · refine T_iconst (pc := 2689) C dL_law_2689 ?_
        exact T_none
  · refine T_iconst (pc := 2672) C dL_law_2672 ?_
    exact T_none
noncomputable def f_law_38 (sq : Nat) (xs : Nat → Int32) (N : Nat) (rec : SL → Int → Option Unit) (σ : SL) (i : Int) : Option Unit :=
  if 0 ≤ (i + 1) ∧ (i + 1) < (sq : Int) then (f_L_ticketLine N σ (scv xs (i + 1))).bind fun v2 => (f_X13_ticketLine N v2.1.2.1 (scv xs (i + 1))).bind fun v3 => (f_X13_thrown (v2.1.1, v3.1, v2.1.2.2).2.1).bind fun v4 => (if v4 = v2.2 then (if v2.2 = 0 then (if (lcm ((v2.1.1, v3.1, v2.1.2.2).2.2.1) v3.2) = 0 then rec (v2.1.1, v3.1, v2.1.2.2) (i + 5) else none) else rec (v2.1.1, v3.1, v2.1.2.2) (i + 5)) else none) else none
theorem lc_38 {X : vjX} {A : Nat → Prop} {Q : State → Prop} {cy : Nat → ClassId} {adc adm : Nat → Nat} {E : Nat → Nat → Nat} {G : va_G} {Z : vZ} {sa : Nat → Nat} {sc sq : Nat} {xs : Nat → Int32} (zk : Zk Z E) (zy : Zy Z E sa) (zs : ZS Z E) (zE : ZE Z) (zp : ZP Z) (zd : ZD Z E) (hst : X.2.1.stackTraces = false) (hZ : Zx Z X (YL cy adc adm E G A 9 Q)) (sx : SX X A sc sq xs) (hL : sq ≤ 2560) (C : Cx X (YL cy adc adm E G A 9 Q) cL_law RL (some .boolean) room_1 (tyL cy)) (N : Nat) (n : Nat) (rec : SL → Int → Option Unit) (ih : ∀ (σ : SL) (i : Int) (a bb : Nat), rng i → a + n * 1000 ≤ 600000 → bb + n * 13000 ≤ 7200000 → T X (YL cy adc adm E G A 9 Q) (fun (_ : Unit) => ∀ (q : SL) (a bb : Nat), a ≤ 600000 → bb ≤ 7200000 → J X (YL cy adc adm E G A 9 Q) a bb 3734 [] [] q) a bb 28 [(0, .ref sc), (1, .ref (adc 0)), (2, .ref (adm 0)), (3, .ref (adm 11)), (4, .ref (adm 12)), (5, vi i)] [] σ (rec σ i)) (σ : SL) (i : Int) (a bb : Nat) (hi : rng i) (hi0 : 0 ≤ i ∧ i < (sq : Int)) (ha : a + (n + 1) * 1000 ≤ 600000) (hb : bb + (n + 1) * 13000 ≤ 7200000) : T X (YL cy adc adm E G A 9 Q) (fun (_ : Unit) => ∀ (q : SL) (a bb : Nat), a ≤ 600000 → bb ≤ 7200000 → J X (YL cy adc adm E G A 9 Q) a bb 3734 [] [] q) a bb 2694 [(0, .ref sc), (1, .ref (adc 0)), (2, .ref (adm 0)), (3, .ref (adm 11)), (4, .ref (adm 12)), (5, vi i)] [] σ (f_law_38 sq xs N rec σ i) := by
  have hsl : sq ≤ 2147483647 := by omega
  have hsq : rng (sq : Int) := by unfold rng; omega
  unfold f_law_38
  refine T_aload_n (pc := 2694) C dL_law_2694 rfl 1 rfl ?_
  refine T_aload_n (pc := 2695) C dL_law_2695 rfl 0 rfl ?_
  refine T_iload (pc := 2696) C dL_law_2696 5 rfl ?_
  refine T_iconst (pc := 2698) C dL_law_2698 ?_
  refine T_iadd (pc := 2699) C dL_law_2699 ?_
  refine T_guard (fun g1 => ?_)
  refine T_sld sx (pc := 2700) C hsl g1 dL_law_2700 ?_
  refine T_aload_n (pc := 2701) C dL_law_2701 rfl 3 rfl ?_
  refine T_lh (pc := 2702) zk.1 hZ C [.ref (adc 0), vi (scv xs (i + 1)), .ref (adm 11)] [] (fun o h9 hw => ct_L_ticketLine zk zy zs zE hst N σ (scv xs (i + 1)) (scv_rng _ _) hw o h9) kq_77 cm_L_ticketLine rfl rfl (Nat.le_of_ble_eq_true rfl) ⟨⟨by decide, by decide⟩, by show _ + 1 ≤ room_1.cells; have := rmC1; omega, by show _ + 6 ≤ room_1.slots; have := rmS1; omega⟩ (a' := a + 1) (b' := bb + 6) ⟨rfl, rfl⟩ dL_law_2702 (fun v2 hv2 => ?_)
  refine T_istore (pc := 2705) (L' := [(6, vi v2.2), (0, .ref sc), (1, .ref (adc 0)), (2, .ref (adm 0)), (3, .ref (adm 11)), (4, .ref (adm 12)), (5, vi i)]) C dL_law_2705 (Nat.le_of_ble_eq_true rfl) rfl ?_
  refine T_aload_n (pc := 2707) C dL_law_2707 rfl 3 rfl ?_
  refine T_aload_n (pc := 2708) C dL_law_2708 rfl 1 rfl ?_
  refine T_iload (pc := 2709) C dL_law_2709 6 rfl ?_
  refine T_iconst (pc := 2711) C dL_law_2711 ?_
  refine T_iadd (pc := 2712) C dL_law_2712 ?_
  refine T_sld sx (pc := 2713) C hsl g1 dL_law_2713 ?_
  refine T_lmi (pc := 2714) C [vi (scv xs (i + 1))] [] (fun o h9 hw => ct_X13_ticketLine N v2.1.2.1 (scv xs (i + 1)) (scv_rng _ _) hw o h9) kq_78 cm_X13_ticketLine rcm rfl rfl (Nat.le_of_ble_eq_true rfl) ⟨⟨by decide, by decide⟩, by show _ + 0 ≤ room_1.cells; have := rmC1; omega, by show _ + 0 ≤ room_1.slots; have := rmS1; omega⟩ (a' := a + 1) (b' := bb + 6) ⟨rfl, rfl⟩ dL_law_2714 (fun v3 hv3 => ?_)
  refine T_istore (pc := 2717) (L' := [(7, vi v3.2), (6, vi v2.2), (0, .ref sc), (1, .ref (adc 0)), (2, .ref (adm 0)), (3, .ref (adm 11)), (4, .ref (adm 12)), (5, vi i)]) C dL_law_2717 (Nat.le_of_ble_eq_true rfl) rfl ?_
  refine T_aload_n (pc := 2719) C dL_law_2719 rfl 4 rfl ?_
  refine T_lmp (pc := 2720) C [] [] (fun o h9 hw => ct_X13_thrown (v2.1.1, v3.1, v2.1.2.2).2.1 hw o h9) kq_2 cm_X13_thrown rcm rfl rfl (Nat.le_of_ble_eq_true rfl) ⟨⟨by decide, by decide⟩, by show _ + 0 ≤ room_1.cells; have := rmC1; omega, by show _ + 0 ≤ room_1.slots; have := rmS1; omega⟩ (a' := a + 1) (b' := bb + 6) ⟨rfl, rfl⟩ dL_law_2720 (fun v4 hv4 => ?_)
  refine T_iload (pc := 2723) C dL_law_2723 1 rfl ?_
  refine T_icmp_eq (pc := 2725) C 2730 dL_law_2725 rfl hv4.1 hv2 (fun c5 => ?_) (fun c5 => ?_)
  · refine T_iload (pc := 2730) C dL_law_2730 1 rfl ?_
    refine T_if_ne (pc := 2732) C 2747 dL_law_2732 rfl hv2 (fun c6 => ?_) (fun c6 => ?_)
    · refine T_goto (pc := 2747) C 3728 dL_law_2747 rfl ?_
      refine T_iinc (pc := 3728) (L' := [(5, vi (i + 5)), (7, vi v3.2), (6, vi v2.2), (0, .ref sc), (1, .ref (adc 0)), (2, .ref (adm 0)), (3, .ref (adm 11)), (4, .ref (adm 12))]) C dL_law_3728 (Nat.le_of_ble_eq_true rfl) 7 rfl rfl ?_
      refine T_goto (pc := 3731) C 28 dL_law_3731 rfl ?_
      refine T_sub (L' := [(0, .ref sc), (1, .ref (adc 0)), (2, .ref (adm 0)), (3, .ref (adm 11)), (4, .ref (adm 12)), (5, vi (i + 5))]) [3, 4, 5, 6, 7, 0] rfl ?_
      exact ih (v2.1.1, v3.1, v2.1.2.2) (i + 5) _ _ (by unfold rng; omega) (stp (c := 1) ha (by decide)) (stp (c := 6) hb (by decide))
    · refine T_aload_n (pc := 2735) C dL_law_2735 rfl 5 rfl ?_
      refine T_iconst (pc := 2736) C dL_law_2736 ?_
      refine T_lald (pc := 2737) C dL_law_2737 (fun o7 => ?_)
      refine T_iload (pc := 2738) C dL_law_2738 0 rfl ?_
      refine T_i2l (pc := 2740) C hv3.1 dL_law_2740 ?_
      refine T_lcmp (pc := 2741) C o7 hv3.1 dL_law_2741 ?_
      refine T_if_eq (pc := 2742) C 2747 dL_law_2742 rfl (lcm_rng _ _) (fun c8 => ?_) (fun c8 => ?_)
      · refine T_goto (pc := 2747) C 3728 dL_law_2747 rfl ?_
        refine T_iinc (pc := 3728) (L' := [(5, vi (i + 5)), (7, vi v3.2), (6, vi v2.2), (0, .ref sc), (1, .ref (adc 0)), (2, .ref (adm 0)), (3, .ref (adm 11)), (4, .ref (adm 12))]) C dL_law_3728 (Nat.le_of_ble_eq_true rfl) 7 rfl rfl ?_
        refine T_goto (pc := 3731) C 28 dL_law_3731 rfl ?_
        refine T_sub (L' := [(0, .ref sc), (1, .ref (adc 0)), (2, .ref (adm 0)), (3, .ref (adm 11)), (4, .ref (adm 12)), (5, vi (i + 5))]) [3, 4, 5, 6, 7, 0] rfl ?_
        exact ih (v2.1.1, v3.1, v2.1.2.2) (i + 5) _ _ (by unfold rng; omega) (stp (c := 1) ha (by decide)) (stp (c := 6) hb (by decide))
      · refine T_iconst (pc := 2745) C dL_law_2745 ?_
        exact T_none
  · refine T_iconst (pc := 2728) C dL_law_2728 ?_
    exact T_none
noncomputable def f_law_39 (sq : Nat) (xs : Nat → Int32) (N : Nat) (rec : SL → Int → Option Unit) (σ : SL) (i : Int) : Option Unit :=
  if 0 ≤ (i + 1) ∧ (i + 1) < (sq : Int) then (f_L_ticketTrip N σ (scv xs (i + 1))).bind fun v2 => (f_X13_ticketTrip N v2.1.2.1 (scv xs (i + 1))).bind fun v3 => (f_X13_thrown (v2.1.1, v3.1, v2.1.2.2).2.1).bind fun v4 => (if v4 = v2.2 then (if v2.2 = 0 then (if (lcm ((v2.1.1, v3.1, v2.1.2.2).2.2.1) v3.2) = 0 then rec (v2.1.1, v3.1, v2.1.2.2) (i + 5) else none) else rec (v2.1.1, v3.1, v2.1.2.2) (i + 5)) else none) else none
theorem lc_39 {X : vjX} {A : Nat → Prop} {Q : State → Prop} {cy : Nat → ClassId} {adc adm : Nat → Nat} {E : Nat → Nat → Nat} {G : va_G} {Z : vZ} {sa : Nat → Nat} {sc sq : Nat} {xs : Nat → Int32} (zk : Zk Z E) (zy : Zy Z E sa) (zs : ZS Z E) (zE : ZE Z) (zp : ZP Z) (zd : ZD Z E) (hst : X.2.1.stackTraces = false) (hZ : Zx Z X (YL cy adc adm E G A 9 Q)) (sx : SX X A sc sq xs) (hL : sq ≤ 2560) (C : Cx X (YL cy adc adm E G A 9 Q) cL_law RL (some .boolean) room_1 (tyL cy)) (N : Nat) (n : Nat) (rec : SL → Int → Option Unit) (ih : ∀ (σ : SL) (i : Int) (a bb : Nat), rng i → a + n * 1000 ≤ 600000 → bb + n * 13000 ≤ 7200000 → T X (YL cy adc adm E G A 9 Q) (fun (_ : Unit) => ∀ (q : SL) (a bb : Nat), a ≤ 600000 → bb ≤ 7200000 → J X (YL cy adc adm E G A 9 Q) a bb 3734 [] [] q) a bb 28 [(0, .ref sc), (1, .ref (adc 0)), (2, .ref (adm 0)), (3, .ref (adm 11)), (4, .ref (adm 12)), (5, vi i)] [] σ (rec σ i)) (σ : SL) (i : Int) (a bb : Nat) (hi : rng i) (hi0 : 0 ≤ i ∧ i < (sq : Int)) (ha : a + (n + 1) * 1000 ≤ 600000) (hb : bb + (n + 1) * 13000 ≤ 7200000) : T X (YL cy adc adm E G A 9 Q) (fun (_ : Unit) => ∀ (q : SL) (a bb : Nat), a ≤ 600000 → bb ≤ 7200000 → J X (YL cy adc adm E G A 9 Q) a bb 3734 [] [] q) a bb 2750 [(0, .ref sc), (1, .ref (adc 0)), (2, .ref (adm 0)), (3, .ref (adm 11)), (4, .ref (adm 12)), (5, vi i)] [] σ (f_law_39 sq xs N rec σ i) := by
  have hsl : sq ≤ 2147483647 := by omega
  have hsq : rng (sq : Int) := by unfold rng; omega
  unfold f_law_39
  refine T_aload_n (pc := 2750) C dL_law_2750 rfl 1 rfl ?_
  refine T_aload_n (pc := 2751) C dL_law_2751 rfl 0 rfl ?_
  refine T_iload (pc := 2752) C dL_law_2752 5 rfl ?_
  refine T_iconst (pc := 2754) C dL_law_2754 ?_
  refine T_iadd (pc := 2755) C dL_law_2755 ?_
  refine T_guard (fun g1 => ?_)
  refine T_sld sx (pc := 2756) C hsl g1 dL_law_2756 ?_
  refine T_aload_n (pc := 2757) C dL_law_2757 rfl 3 rfl ?_
  refine T_lh (pc := 2758) zk.1 hZ C [.ref (adc 0), vi (scv xs (i + 1)), .ref (adm 11)] [] (fun o h9 hw => ct_L_ticketTrip zk zy zs zE hst N σ (scv xs (i + 1)) (scv_rng _ _) hw o h9) kq_79 cm_L_ticketTrip rfl rfl (Nat.le_of_ble_eq_true rfl) ⟨⟨by decide, by decide⟩, by show _ + 1 ≤ room_1.cells; have := rmC1; omega, by show _ + 6 ≤ room_1.slots; have := rmS1; omega⟩ (a' := a + 1) (b' := bb + 6) ⟨rfl, rfl⟩ dL_law_2758 (fun v2 hv2 => ?_)
  refine T_istore (pc := 2761) (L' := [(6, vi v2.2), (0, .ref sc), (1, .ref (adc 0)), (2, .ref (adm 0)), (3, .ref (adm 11)), (4, .ref (adm 12)), (5, vi i)]) C dL_law_2761 (Nat.le_of_ble_eq_true rfl) rfl ?_
  refine T_aload_n (pc := 2763) C dL_law_2763 rfl 3 rfl ?_
  refine T_aload_n (pc := 2764) C dL_law_2764 rfl 1 rfl ?_
  refine T_iload (pc := 2765) C dL_law_2765 6 rfl ?_
  refine T_iconst (pc := 2767) C dL_law_2767 ?_
  refine T_iadd (pc := 2768) C dL_law_2768 ?_
  refine T_sld sx (pc := 2769) C hsl g1 dL_law_2769 ?_
  refine T_lmi (pc := 2770) C [vi (scv xs (i + 1))] [] (fun o h9 hw => ct_X13_ticketTrip N v2.1.2.1 (scv xs (i + 1)) (scv_rng _ _) hw o h9) kq_80 cm_X13_ticketTrip rcm rfl rfl (Nat.le_of_ble_eq_true rfl) ⟨⟨by decide, by decide⟩, by show _ + 0 ≤ room_1.cells; have := rmC1; omega, by show _ + 0 ≤ room_1.slots; have := rmS1; omega⟩ (a' := a + 1) (b' := bb + 6) ⟨rfl, rfl⟩ dL_law_2770 (fun v3 hv3 => ?_)
  refine T_istore (pc := 2773) (L' := [(7, vi v3.2), (6, vi v2.2), (0, .ref sc), (1, .ref (adc 0)), (2, .ref (adm 0)), (3, .ref (adm 11)), (4, .ref (adm 12)), (5, vi i)]) C dL_law_2773 (Nat.le_of_ble_eq_true rfl) rfl ?_
  refine T_aload_n (pc := 2775) C dL_law_2775 rfl 4 rfl ?_
  refine T_lmp (pc := 2776) C [] [] (fun o h9 hw => ct_X13_thrown (v2.1.1, v3.1, v2.1.2.2).2.1 hw o h9) kq_2 cm_X13_thrown rcm rfl rfl (Nat.le_of_ble_eq_true rfl) ⟨⟨by decide, by decide⟩, by show _ + 0 ≤ room_1.cells; have := rmC1; omega, by show _ + 0 ≤ room_1.slots; have := rmS1; omega⟩ (a' := a + 1) (b' := bb + 6) ⟨rfl, rfl⟩ dL_law_2776 (fun v4 hv4 => ?_)
  refine T_iload (pc := 2779) C dL_law_2779 1 rfl ?_
  refine T_icmp_eq (pc := 2781) C 2786 dL_law_2781 rfl hv4.1 hv2 (fun c5 => ?_) (fun c5 => ?_)
  · refine T_iload (pc := 2786) C dL_law_2786 1 rfl ?_
    refine T_if_ne (pc := 2788) C 2803 dL_law_2788 rfl hv2 (fun c6 => ?_) (fun c6 => ?_)
    · refine T_goto (pc := 2803) C 3728 dL_law_2803 rfl ?_
      refine T_iinc (pc := 3728) (L' := [(5, vi (i + 5)), (7, vi v3.2), (6, vi v2.2), (0, .ref sc), (1, .ref (adc 0)), (2, .ref (adm 0)), (3, .ref (adm 11)), (4, .ref (adm 12))]) C dL_law_3728 (Nat.le_of_ble_eq_true rfl) 7 rfl rfl ?_
      refine T_goto (pc := 3731) C 28 dL_law_3731 rfl ?_
      refine T_sub (L' := [(0, .ref sc), (1, .ref (adc 0)), (2, .ref (adm 0)), (3, .ref (adm 11)), (4, .ref (adm 12)), (5, vi (i + 5))]) [3, 4, 5, 6, 7, 0] rfl ?_
      exact ih (v2.1.1, v3.1, v2.1.2.2) (i + 5) _ _ (by unfold rng; omega) (stp (c := 1) ha (by decide)) (stp (c := 6) hb (by decide))
    · refine T_aload_n (pc := 2791) C dL_law_2791 rfl 5 rfl ?_
      refine T_iconst (pc := 2792) C dL_law_2792 ?_
      refine T_lald (pc := 2793) C dL_law_2793 (fun o7 => ?_)
      refine T_iload (pc := 2794) C dL_law_2794 0 rfl ?_
      refine T_i2l (pc := 2796) C hv3.1 dL_law_2796 ?_
      refine T_lcmp (pc := 2797) C o7 hv3.1 dL_law_2797 ?_
      refine T_if_eq (pc := 2798) C 2803 dL_law_2798 rfl (lcm_rng _ _) (fun c8 => ?_) (fun c8 => ?_)
      · refine T_goto (pc := 2803) C 3728 dL_law_2803 rfl ?_
        refine T_iinc (pc := 3728) (L' := [(5, vi (i + 5)), (7, vi v3.2), (6, vi v2.2), (0, .ref sc), (1, .ref (adc 0)), (2, .ref (adm 0)), (3, .ref (adm 11)), (4, .ref (adm 12))]) C dL_law_3728 (Nat.le_of_ble_eq_true rfl) 7 rfl rfl ?_
        refine T_goto (pc := 3731) C 28 dL_law_3731 rfl ?_
        refine T_sub (L' := [(0, .ref sc), (1, .ref (adc 0)), (2, .ref (adm 0)), (3, .ref (adm 11)), (4, .ref (adm 12)), (5, vi (i + 5))]) [3, 4, 5, 6, 7, 0] rfl ?_
        exact ih (v2.1.1, v3.1, v2.1.2.2) (i + 5) _ _ (by unfold rng; omega) (stp (c := 1) ha (by decide)) (stp (c := 6) hb (by decide))
      · refine T_iconst (pc := 2801) C dL_law_2801 ?_
        exact T_none
  · refine T_iconst (pc := 2784) C dL_law_2784 ?_
    exact T_none
