/-! the room, with what may differ from one printing of the statement to the next left aside -/
theorem rmC1 : 600000 ≤ room_1.cells := Nat.le_of_ble_eq_true rfl
theorem rmS1 : 7200000 ≤ room_1.slots := Nat.le_of_ble_eq_true rfl
theorem stp {a n k c B : Nat} (h : a + (n + 1) * k ≤ B) (hc : c ≤ k) : a + c + n * k ≤ B := by
  rw [Nat.add_mul] at h
  omega
theorem mod_chr (x : Int) : 0 ≤ x % 65536 ∧ x % 65536 < 65536 := by omega
theorem T_i2cm {S O : Type} {X : vjX} {Y : vjY S} {kp : O → Prop} {cc : ByteArray} {own : String} {ret : Option FieldType} {Rm : Room} {tys : List (ClassId × FieldType)} {a b pc : Nat} {L : List (Nat × Value)} {st : List Value} {σ : S} {r : Option O} (C : Cx X Y cc own ret Rm tys) {x : Int} (d : decode cc pc = .ok (.i2c, 1)) (K : T X Y kp a b (pc + 1) L (vi (x % 65536) :: st) σ r) : T X Y kp a b pc L (vi x :: st) σ r := fun o h hk H locs ls hP hD hS hw hl => by
  refine lv_i2c C.1 C.2.1 d ?_ (K o h hk H locs ls hP hD hS hw hl)
  have h1 := tn_ofInt x
  have h2 := tn_ofInt (x % 65536)
  apply Int32.toBitVec_inj.mp
  apply BitVec.eq_of_toNat_eq
  rw [h2]
  show ((Int32.ofInt x).toUInt32 % 65536).toNat = _
  rw [UInt32.toNat_mod]
  show (Int32.ofInt x).toBitVec.toNat % 65536 = _
  rw [h1]
  omega
noncomputable def f_law_0 (sq : Nat) (xs : Nat → Int32) (N : Nat) (rec : SL → Int → Option Unit) (σ : SL) (i : Int) : Option Unit :=
  if 0 ≤ (i + 1) ∧ (i + 1) < (sq : Int) then (f_L_addStop N σ (scv xs (i + 1))).bind fun v2 => (f_X13_addStop N v2.1.2.1 (scv xs (i + 1))).bind fun v3 => (f_X13_thrown (v2.1.1, v3.1, v2.1.2.2).2.1).bind fun v4 => (if v4 = v2.2 then (if v2.2 = 0 then (if (lcm ((v2.1.1, v3.1, v2.1.2.2).2.2.1) v3.2) = 0 then rec (v2.1.1, v3.1, v2.1.2.2) (i + 5) else none) else rec (v2.1.1, v3.1, v2.1.2.2) (i + 5)) else none) else none
theorem lc_0 {X : vjX} {A : Nat → Prop} {Q : State → Prop} {cy : Nat → ClassId} {adc adm : Nat → Nat} {E : Nat → Nat → Nat} {G : va_G} {Z : vZ} {sa : Nat → Nat} {sc sq : Nat} {xs : Nat → Int32} (zk : Zk Z E) (zy : Zy Z E sa) (zs : ZS Z E) (zE : ZE Z) (zp : ZP Z) (zd : ZD Z E) (hst : X.2.1.stackTraces = false) (hZ : Zx Z X (YL cy adc adm E G A 9 Q)) (sx : SX X A sc sq xs) (hL : sq ≤ 2560) (C : Cx X (YL cy adc adm E G A 9 Q) cL_law RL (some .boolean) room_1 (tyL cy)) (N : Nat) (n : Nat) (rec : SL → Int → Option Unit) (ih : ∀ (σ : SL) (i : Int) (a bb : Nat), rng i → a + n * 1000 ≤ 600000 → bb + n * 13000 ≤ 7200000 → T X (YL cy adc adm E G A 9 Q) (fun (_ : Unit) => ∀ (q : SL) (a bb : Nat), a ≤ 600000 → bb ≤ 7200000 → J X (YL cy adc adm E G A 9 Q) a bb 3734 [] [] q) a bb 28 [(0, .ref sc), (1, .ref (adc 0)), (2, .ref (adm 0)), (3, .ref (adm 11)), (4, .ref (adm 12)), (5, vi i)] [] σ (rec σ i)) (σ : SL) (i : Int) (a bb : Nat) (hi : rng i) (hi0 : 0 ≤ i ∧ i < (sq : Int)) (ha : a + (n + 1) * 1000 ≤ 600000) (hb : bb + (n + 1) * 13000 ≤ 7200000) : T X (YL cy adc adm E G A 9 Q) (fun (_ : Unit) => ∀ (q : SL) (a bb : Nat), a ≤ 600000 → bb ≤ 7200000 → J X (YL cy adc adm E G A 9 Q) a bb 3734 [] [] q) a bb 304 [(0, .ref sc), (1, .ref (adc 0)), (2, .ref (adm 0)), (3, .ref (adm 11)), (4, .ref (adm 12)), (5, vi i)] [] σ (f_law_0 sq xs N rec σ i) := by
  have hsl : sq ≤ 2147483647 := by omega
  have hsq : rng (sq : Int) := by unfold rng; omega
  unfold f_law_0
  refine T_aload_n (pc := 304) C dL_law_304 rfl 1 rfl ?_
  refine T_aload_n (pc := 305) C dL_law_305 rfl 0 rfl ?_
  refine T_iload (pc := 306) C dL_law_306 5 rfl ?_
  refine T_iconst (pc := 308) C dL_law_308 ?_
  refine T_iadd (pc := 309) C dL_law_309 ?_
  refine T_guard (fun g1 => ?_)
  refine T_sld sx (pc := 310) C hsl g1 dL_law_310 ?_
  refine T_aload_n (pc := 311) C dL_law_311 rfl 3 rfl ?_
  refine T_lh (pc := 312) zk.1 hZ C [.ref (adc 0), vi (scv xs (i + 1)), .ref (adm 11)] [] (fun o h9 hw => ct_L_addStop zk zy zs zE hst N σ (scv xs (i + 1)) (scv_rng _ _) hw o h9) kq_0 cm_L_addStop rfl rfl (Nat.le_of_ble_eq_true rfl) ⟨⟨by decide, by decide⟩, by show _ + 1 ≤ room_1.cells; have := rmC1; omega, by show _ + 6 ≤ room_1.slots; have := rmS1; omega⟩ (a' := a + 1) (b' := bb + 6) ⟨rfl, rfl⟩ dL_law_312 (fun v2 hv2 => ?_)
  refine T_istore (pc := 315) (L' := [(6, vi v2.2), (0, .ref sc), (1, .ref (adc 0)), (2, .ref (adm 0)), (3, .ref (adm 11)), (4, .ref (adm 12)), (5, vi i)]) C dL_law_315 (Nat.le_of_ble_eq_true rfl) rfl ?_
  refine T_aload_n (pc := 317) C dL_law_317 rfl 3 rfl ?_
  refine T_aload_n (pc := 318) C dL_law_318 rfl 1 rfl ?_
  refine T_iload (pc := 319) C dL_law_319 6 rfl ?_
  refine T_iconst (pc := 321) C dL_law_321 ?_
  refine T_iadd (pc := 322) C dL_law_322 ?_
  refine T_sld sx (pc := 323) C hsl g1 dL_law_323 ?_
  refine T_lmi (pc := 324) C [vi (scv xs (i + 1))] [] (fun o h9 hw => ct_X13_addStop N v2.1.2.1 (scv xs (i + 1)) (scv_rng _ _) hw o h9) kq_1 cm_X13_addStop rcm rfl rfl (Nat.le_of_ble_eq_true rfl) ⟨⟨by decide, by decide⟩, by show _ + 0 ≤ room_1.cells; have := rmC1; omega, by show _ + 0 ≤ room_1.slots; have := rmS1; omega⟩ (a' := a + 1) (b' := bb + 6) ⟨rfl, rfl⟩ dL_law_324 (fun v3 hv3 => ?_)
  refine T_istore (pc := 327) (L' := [(7, vi v3.2), (6, vi v2.2), (0, .ref sc), (1, .ref (adc 0)), (2, .ref (adm 0)), (3, .ref (adm 11)), (4, .ref (adm 12)), (5, vi i)]) C dL_law_327 (Nat.le_of_ble_eq_true rfl) rfl ?_
  refine T_aload_n (pc := 329) C dL_law_329 rfl 4 rfl ?_
  refine T_lmp (pc := 330) C [] [] (fun o h9 hw => ct_X13_thrown (v2.1.1, v3.1, v2.1.2.2).2.1 hw o h9) kq_2 cm_X13_thrown rcm rfl rfl (Nat.le_of_ble_eq_true rfl) ⟨⟨by decide, by decide⟩, by show _ + 0 ≤ room_1.cells; have := rmC1; omega, by show _ + 0 ≤ room_1.slots; have := rmS1; omega⟩ (a' := a + 1) (b' := bb + 6) ⟨rfl, rfl⟩ dL_law_330 (fun v4 hv4 => ?_)
  refine T_iload (pc := 333) C dL_law_333 1 rfl ?_
  refine T_icmp_eq (pc := 335) C 340 dL_law_335 rfl hv4.1 hv2 (fun c5 => ?_) (fun c5 => ?_)
  · refine T_iload (pc := 340) C dL_law_340 1 rfl ?_
    refine T_if_ne (pc := 342) C 357 dL_law_342 rfl hv2 (fun c6 => ?_) (fun c6 => ?_)
    · refine T_goto (pc := 357) C 3728 dL_law_357 rfl ?_
      refine T_iinc (pc := 3728) (L' := [(5, vi (i + 5)), (7, vi v3.2), (6, vi v2.2), (0, .ref sc), (1, .ref (adc 0)), (2, .ref (adm 0)), (3, .ref (adm 11)), (4, .ref (adm 12))]) C dL_law_3728 (Nat.le_of_ble_eq_true rfl) 7 rfl rfl ?_
      refine T_goto (pc := 3731) C 28 dL_law_3731 rfl ?_
      refine T_sub (L' := [(0, .ref sc), (1, .ref (adc 0)), (2, .ref (adm 0)), (3, .ref (adm 11)), (4, .ref (adm 12)), (5, vi (i + 5))]) [3, 4, 5, 6, 7, 0] rfl ?_
      exact ih (v2.1.1, v3.1, v2.1.2.2) (i + 5) _ _ (by unfold rng; omega) (stp (c := 1) ha (by decide)) (stp (c := 6) hb (by decide))
    · refine T_aload_n (pc := 345) C dL_law_345 rfl 5 rfl ?_
      refine T_iconst (pc := 346) C dL_law_346 ?_
      refine T_lald (pc := 347) C dL_law_347 (fun o7 => ?_)
      refine T_iload (pc := 348) C dL_law_348 0 rfl ?_
      refine T_i2l (pc := 350) C hv3.1 dL_law_350 ?_
      refine T_lcmp (pc := 351) C o7 hv3.1 dL_law_351 ?_
      refine T_if_eq (pc := 352) C 357 dL_law_352 rfl (lcm_rng _ _) (fun c8 => ?_) (fun c8 => ?_)
      · refine T_goto (pc := 357) C 3728 dL_law_357 rfl ?_
        refine T_iinc (pc := 3728) (L' := [(5, vi (i + 5)), (7, vi v3.2), (6, vi v2.2), (0, .ref sc), (1, .ref (adc 0)), (2, .ref (adm 0)), (3, .ref (adm 11)), (4, .ref (adm 12))]) C dL_law_3728 (Nat.le_of_ble_eq_true rfl) 7 rfl rfl ?_
        refine T_goto (pc := 3731) C 28 dL_law_3731 rfl ?_
        refine T_sub (L' := [(0, .ref sc), (1, .ref (adc 0)), (2, .ref (adm 0)), (3, .ref (adm 11)), (4, .ref (adm 12)), (5, vi (i + 5))]) [3, 4, 5, 6, 7, 0] rfl ?_
        exact ih (v2.1.1, v3.1, v2.1.2.2) (i + 5) _ _ (by unfold rng; omega) (stp (c := 1) ha (by decide)) (stp (c := 6) hb (by decide))
      · refine T_iconst (pc := 355) C dL_law_355 ?_
        exact T_none
  · refine T_iconst (pc := 338) C dL_law_338 ?_
    exact T_none
noncomputable def f_law_1 (sq : Nat) (xs : Nat → Int32) (N : Nat) (rec : SL → Int → Option Unit) (σ : SL) (i : Int) : Option Unit :=
  if 0 ≤ (i + 1) ∧ (i + 1) < (sq : Int) then if 0 ≤ (i + 2) ∧ (i + 2) < (sq : Int) then if 0 ≤ (i + 3) ∧ (i + 3) < (sq : Int) then (f_L_addWalk N σ (scv xs (i + 1)) (scv xs (i + 2)) (scv xs (i + 3))).bind fun v4 => (f_X13_addWalk N v4.1.2.1 (scv xs (i + 1)) (scv xs (i + 2)) (scv xs (i + 3))).bind fun v5 => (f_X13_thrown (v4.1.1, v5.1, v4.1.2.2).2.1).bind fun v6 => (if v6 = v4.2 then (if v4.2 = 0 then (if (lcm ((v4.1.1, v5.1, v4.1.2.2).2.2.1) v5.2) = 0 then rec (v4.1.1, v5.1, v4.1.2.2) (i + 5) else none) else rec (v4.1.1, v5.1, v4.1.2.2) (i + 5)) else none) else none else none else none
theorem lc_1 {X : vjX} {A : Nat → Prop} {Q : State → Prop} {cy : Nat → ClassId} {adc adm : Nat → Nat} {E : Nat → Nat → Nat} {G : va_G} {Z : vZ} {sa : Nat → Nat} {sc sq : Nat} {xs : Nat → Int32} (zk : Zk Z E) (zy : Zy Z E sa) (zs : ZS Z E) (zE : ZE Z) (zp : ZP Z) (zd : ZD Z E) (hst : X.2.1.stackTraces = false) (hZ : Zx Z X (YL cy adc adm E G A 9 Q)) (sx : SX X A sc sq xs) (hL : sq ≤ 2560) (C : Cx X (YL cy adc adm E G A 9 Q) cL_law RL (some .boolean) room_1 (tyL cy)) (N : Nat) (n : Nat) (rec : SL → Int → Option Unit) (ih : ∀ (σ : SL) (i : Int) (a bb : Nat), rng i → a + n * 1000 ≤ 600000 → bb + n * 13000 ≤ 7200000 → T X (YL cy adc adm E G A 9 Q) (fun (_ : Unit) => ∀ (q : SL) (a bb : Nat), a ≤ 600000 → bb ≤ 7200000 → J X (YL cy adc adm E G A 9 Q) a bb 3734 [] [] q) a bb 28 [(0, .ref sc), (1, .ref (adc 0)), (2, .ref (adm 0)), (3, .ref (adm 11)), (4, .ref (adm 12)), (5, vi i)] [] σ (rec σ i)) (σ : SL) (i : Int) (a bb : Nat) (hi : rng i) (hi0 : 0 ≤ i ∧ i < (sq : Int)) (ha : a + (n + 1) * 1000 ≤ 600000) (hb : bb + (n + 1) * 13000 ≤ 7200000) : T X (YL cy adc adm E G A 9 Q) (fun (_ : Unit) => ∀ (q : SL) (a bb : Nat), a ≤ 600000 → bb ≤ 7200000 → J X (YL cy adc adm E G A 9 Q) a bb 3734 [] [] q) a bb 360 [(0, .ref sc), (1, .ref (adc 0)), (2, .ref (adm 0)), (3, .ref (adm 11)), (4, .ref (adm 12)), (5, vi i)] [] σ (f_law_1 sq xs N rec σ i) := by
  have hsl : sq ≤ 2147483647 := by omega
  have hsq : rng (sq : Int) := by unfold rng; omega
  unfold f_law_1
  refine T_aload_n (pc := 360) C dL_law_360 rfl 1 rfl ?_
  refine T_aload_n (pc := 361) C dL_law_361 rfl 0 rfl ?_
  refine T_iload (pc := 362) C dL_law_362 5 rfl ?_
  refine T_iconst (pc := 364) C dL_law_364 ?_
  refine T_iadd (pc := 365) C dL_law_365 ?_
  refine T_guard (fun g1 => ?_)
  refine T_sld sx (pc := 366) C hsl g1 dL_law_366 ?_
  refine T_aload_n (pc := 367) C dL_law_367 rfl 0 rfl ?_
  refine T_iload (pc := 368) C dL_law_368 5 rfl ?_
  refine T_iconst (pc := 370) C dL_law_370 ?_
  refine T_iadd (pc := 371) C dL_law_371 ?_
  refine T_guard (fun g2 => ?_)
  refine T_sld sx (pc := 372) C hsl g2 dL_law_372 ?_
  refine T_aload_n (pc := 373) C dL_law_373 rfl 0 rfl ?_
  refine T_iload (pc := 374) C dL_law_374 5 rfl ?_
  refine T_iconst (pc := 376) C dL_law_376 ?_
  refine T_iadd (pc := 377) C dL_law_377 ?_
  refine T_guard (fun g3 => ?_)
  refine T_sld sx (pc := 378) C hsl g3 dL_law_378 ?_
  refine T_aload_n (pc := 379) C dL_law_379 rfl 3 rfl ?_
  refine T_lh (pc := 380) zk.1 hZ C [.ref (adc 0), vi (scv xs (i + 1)), vi (scv xs (i + 2)), vi (scv xs (i + 3)), .ref (adm 11)] [] (fun o h9 hw => ct_L_addWalk zk zy zs zE hst N σ (scv xs (i + 1)) (scv xs (i + 2)) (scv xs (i + 3)) (scv_rng _ _) (scv_rng _ _) (scv_rng _ _) hw o h9) kq_3 cm_L_addWalk rfl rfl (Nat.le_of_ble_eq_true rfl) ⟨⟨by decide, by decide⟩, by show _ + 1 ≤ room_1.cells; have := rmC1; omega, by show _ + 6 ≤ room_1.slots; have := rmS1; omega⟩ (a' := a + 1) (b' := bb + 6) ⟨rfl, rfl⟩ dL_law_380 (fun v4 hv4 => ?_)
  refine T_istore (pc := 383) (L' := [(6, vi v4.2), (0, .ref sc), (1, .ref (adc 0)), (2, .ref (adm 0)), (3, .ref (adm 11)), (4, .ref (adm 12)), (5, vi i)]) C dL_law_383 (Nat.le_of_ble_eq_true rfl) rfl ?_
  refine T_aload_n (pc := 385) C dL_law_385 rfl 3 rfl ?_
  refine T_aload_n (pc := 386) C dL_law_386 rfl 1 rfl ?_
  refine T_iload (pc := 387) C dL_law_387 6 rfl ?_
  refine T_iconst (pc := 389) C dL_law_389 ?_
  refine T_iadd (pc := 390) C dL_law_390 ?_
  refine T_sld sx (pc := 391) C hsl g1 dL_law_391 ?_
  refine T_aload_n (pc := 392) C dL_law_392 rfl 1 rfl ?_
  refine T_iload (pc := 393) C dL_law_393 6 rfl ?_
  refine T_iconst (pc := 395) C dL_law_395 ?_
  refine T_iadd (pc := 396) C dL_law_396 ?_
  refine T_sld sx (pc := 397) C hsl g2 dL_law_397 ?_
  refine T_aload_n (pc := 398) C dL_law_398 rfl 1 rfl ?_
  refine T_iload (pc := 399) C dL_law_399 6 rfl ?_
  refine T_iconst (pc := 401) C dL_law_401 ?_
  refine T_iadd (pc := 402) C dL_law_402 ?_
  refine T_sld sx (pc := 403) C hsl g3 dL_law_403 ?_
  refine T_lmi (pc := 404) C [vi (scv xs (i + 1)), vi (scv xs (i + 2)), vi (scv xs (i + 3))] [] (fun o h9 hw => ct_X13_addWalk N v4.1.2.1 (scv xs (i + 1)) (scv xs (i + 2)) (scv xs (i + 3)) (scv_rng _ _) (scv_rng _ _) (scv_rng _ _) hw o h9) kq_4 cm_X13_addWalk rcm rfl rfl (Nat.le_of_ble_eq_true rfl) ⟨⟨by decide, by decide⟩, by show _ + 0 ≤ room_1.cells; have := rmC1; omega, by show _ + 0 ≤ room_1.slots; have := rmS1; omega⟩ (a' := a + 1) (b' := bb + 6) ⟨rfl, rfl⟩ dL_law_404 (fun v5 hv5 => ?_)
  refine T_istore (pc := 407) (L' := [(7, vi v5.2), (6, vi v4.2), (0, .ref sc), (1, .ref (adc 0)), (2, .ref (adm 0)), (3, .ref (adm 11)), (4, .ref (adm 12)), (5, vi i)]) C dL_law_407 (Nat.le_of_ble_eq_true rfl) rfl ?_
  refine T_aload_n (pc := 409) C dL_law_409 rfl 4 rfl ?_
  refine T_lmp (pc := 410) C [] [] (fun o h9 hw => ct_X13_thrown (v4.1.1, v5.1, v4.1.2.2).2.1 hw o h9) kq_2 cm_X13_thrown rcm rfl rfl (Nat.le_of_ble_eq_true rfl) ⟨⟨by decide, by decide⟩, by show _ + 0 ≤ room_1.cells; have := rmC1; omega, by show _ + 0 ≤ room_1.slots; have := rmS1; omega⟩ (a' := a + 1) (b' := bb + 6) ⟨rfl, rfl⟩ dL_law_410 (fun v6 hv6 => ?_)
  refine T_iload (pc := 413) C dL_law_413 1 rfl ?_
  refine T_icmp_eq (pc := 415) C 420 dL_law_415 rfl hv6.1 hv4 (fun c7 => ?_) (fun c7 => ?_)
  · refine T_iload (pc := 420) C dL_law_420 1 rfl ?_
    refine T_if_ne (pc := 422) C 437 dL_law_422 rfl hv4 (fun c8 => ?_) (fun c8 => ?_)
    · refine T_goto (pc := 437) C 3728 dL_law_437 rfl ?_
      refine T_iinc (pc := 3728) (L' := [(5, vi (i + 5)), (7, vi v5.2), (6, vi v4.2), (0, .ref sc), (1, .ref (adc 0)), (2, .ref (adm 0)), (3, .ref (adm 11)), (4, .ref (adm 12))]) C dL_law_3728 (Nat.le_of_ble_eq_true rfl) 7 rfl rfl ?_
      refine T_goto (pc := 3731) C 28 dL_law_3731 rfl ?_
      refine T_sub (L' := [(0, .ref sc), (1, .ref (adc 0)), (2, .ref (adm 0)), (3, .ref (adm 11)), (4, .ref (adm 12)), (5, vi (i + 5))]) [3, 4, 5, 6, 7, 0] rfl ?_
      exact ih (v4.1.1, v5.1, v4.1.2.2) (i + 5) _ _ (by unfold rng; omega) (stp (c := 1) ha (by decide)) (stp (c := 6) hb (by decide))
    · refine T_aload_n (pc := 425) C dL_law_425 rfl 5 rfl ?_
      refine T_iconst (pc := 426) C dL_law_426 ?_
      refine T_lald (pc := 427) C dL_law_427 (fun o9 => ?_)
      refine T_iload (pc := 428) C dL_law_428 0 rfl ?_
      refine T_i2l (pc := 430) C hv5.1 dL_law_430 ?_
      refine T_lcmp (pc := 431) C o9 hv5.1 dL_law_431 ?_
      refine T_if_eq (pc := 432) C 437 dL_law_432 rfl (lcm_rng _ _) (fun c10 => ?_) (fun c10 => ?_)
      · refine T_goto (pc := 437) C 3728 dL_law_437 rfl ?_
        refine T_iinc (pc := 3728) (L' := [(5, vi (i + 5)), (7, vi v5.2), (6, vi v4.2), (0, .ref sc), (1, .ref (adc 0)), (2, .ref (adm 0)), (3, .ref (adm 11)), (4, .ref (adm 12))]) C dL_law_3728 (Nat.le_of_ble_eq_true rfl) 7 rfl rfl ?_
        refine T_goto (pc := 3731) C 28 dL_law_3731 rfl ?_
        refine T_sub (L' := [(0, .ref sc), (1, .ref (adc 0)), (2, .ref (adm 0)), (3, .ref (adm 11)), (4, .ref (adm 12)), (5, vi (i + 5))]) [3, 4, 5, 6, 7, 0] rfl ?_
        exact ih (v4.1.1, v5.1, v4.1.2.2) (i + 5) _ _ (by unfold rng; omega) (stp (c := 1) ha (by decide)) (stp (c := 6) hb (by decide))
      · refine T_iconst (pc := 435) C dL_law_435 ?_
        exact T_none
  · refine T_iconst (pc := 418) C dL_law_418 ?_
    exact T_none
noncomputable def f_law_2 (sq : Nat) (xs : Nat → Int32) (N : Nat) (rec : SL → Int → Option Unit) (σ : SL) (i : Int) : Option Unit :=
  if 0 ≤ (i + 1) ∧ (i + 1) < (sq : Int) then if 0 ≤ (i + 2) ∧ (i + 2) < (sq : Int) then (f_L_removeWalk N σ (scv xs (i + 1)) (scv xs (i + 2))).bind fun v3 => (f_X13_removeWalk N v3.1.2.1 (scv xs (i + 1)) (scv xs (i + 2))).bind fun v4 => (f_X13_thrown (v3.1.1, v4.1, v3.1.2.2).2.1).bind fun v5 => (if v5 = v3.2 then (if v3.2 = 0 then (if (lcm ((v3.1.1, v4.1, v3.1.2.2).2.2.1) v4.2) = 0 then rec (v3.1.1, v4.1, v3.1.2.2) (i + 5) else none) else rec (v3.1.1, v4.1, v3.1.2.2) (i + 5)) else none) else none else none
theorem lc_2 {X : vjX} {A : Nat → Prop} {Q : State → Prop} {cy : Nat → ClassId} {adc adm : Nat → Nat} {E : Nat → Nat → Nat} {G : va_G} {Z : vZ} {sa : Nat → Nat} {sc sq : Nat} {xs : Nat → Int32} (zk : Zk Z E) (zy : Zy Z E sa) (zs : ZS Z E) (zE : ZE Z) (zp : ZP Z) (zd : ZD Z E) (hst : X.2.1.stackTraces = false) (hZ : Zx Z X (YL cy adc adm E G A 9 Q)) (sx : SX X A sc sq xs) (hL : sq ≤ 2560) (C : Cx X (YL cy adc adm E G A 9 Q) cL_law RL (some .boolean) room_1 (tyL cy)) (N : Nat) (n : Nat) (rec : SL → Int → Option Unit) (ih : ∀ (σ : SL) (i : Int) (a bb : Nat), rng i → a + n * 1000 ≤ 600000 → bb + n * 13000 ≤ 7200000 → T X (YL cy adc adm E G A 9 Q) (fun (_ : Unit) => ∀ (q : SL) (a bb : Nat), a ≤ 600000 → bb ≤ 7200000 → J X (YL cy adc adm E G A 9 Q) a bb 3734 [] [] q) a bb 28 [(0, .ref sc), (1, .ref (adc 0)), (2, .ref (adm 0)), (3, .ref (adm 11)), (4, .ref (adm 12)), (5, vi i)] [] σ (rec σ i)) (σ : SL) (i : Int) (a bb : Nat) (hi : rng i) (hi0 : 0 ≤ i ∧ i < (sq : Int)) (ha : a + (n + 1) * 1000 ≤ 600000) (hb : bb + (n + 1) * 13000 ≤ 7200000) : T X (YL cy adc adm E G A 9 Q) (fun (_ : Unit) => ∀ (q : SL) (a bb : Nat), a ≤ 600000 → bb ≤ 7200000 → J X (YL cy adc adm E G A 9 Q) a bb 3734 [] [] q) a bb 440 [(0, .ref sc), (1, .ref (adc 0)), (2, .ref (adm 0)), (3, .ref (adm 11)), (4, .ref (adm 12)), (5, vi i)] [] σ (f_law_2 sq xs N rec σ i) := by
  have hsl : sq ≤ 2147483647 := by omega
  have hsq : rng (sq : Int) := by unfold rng; omega
  unfold f_law_2
  refine T_aload_n (pc := 440) C dL_law_440 rfl 1 rfl ?_
  refine T_aload_n (pc := 441) C dL_law_441 rfl 0 rfl ?_
  refine T_iload (pc := 442) C dL_law_442 5 rfl ?_
  refine T_iconst (pc := 444) C dL_law_444 ?_
  refine T_iadd (pc := 445) C dL_law_445 ?_
  refine T_guard (fun g1 => ?_)
  refine T_sld sx (pc := 446) C hsl g1 dL_law_446 ?_
  refine T_aload_n (pc := 447) C dL_law_447 rfl 0 rfl ?_
  refine T_iload (pc := 448) C dL_law_448 5 rfl ?_
  refine T_iconst (pc := 450) C dL_law_450 ?_
  refine T_iadd (pc := 451) C dL_law_451 ?_
  refine T_guard (fun g2 => ?_)
  refine T_sld sx (pc := 452) C hsl g2 dL_law_452 ?_
  refine T_aload_n (pc := 453) C dL_law_453 rfl 3 rfl ?_
  refine T_lh (pc := 454) zk.1 hZ C [.ref (adc 0), vi (scv xs (i + 1)), vi (scv xs (i + 2)), .ref (adm 11)] [] (fun o h9 hw => ct_L_removeWalk zk zy zs zE hst N σ (scv xs (i + 1)) (scv xs (i + 2)) (scv_rng _ _) (scv_rng _ _) hw o h9) kq_5 cm_L_removeWalk rfl rfl (Nat.le_of_ble_eq_true rfl) ⟨⟨by decide, by decide⟩, by show _ + 1 ≤ room_1.cells; have := rmC1; omega, by show _ + 6 ≤ room_1.slots; have := rmS1; omega⟩ (a' := a + 1) (b' := bb + 6) ⟨rfl, rfl⟩ dL_law_454 (fun v3 hv3 => ?_)
  refine T_istore (pc := 457) (L' := [(6, vi v3.2), (0, .ref sc), (1, .ref (adc 0)), (2, .ref (adm 0)), (3, .ref (adm 11)), (4, .ref (adm 12)), (5, vi i)]) C dL_law_457 (Nat.le_of_ble_eq_true rfl) rfl ?_
  refine T_aload_n (pc := 459) C dL_law_459 rfl 3 rfl ?_
  refine T_aload_n (pc := 460) C dL_law_460 rfl 1 rfl ?_
  refine T_iload (pc := 461) C dL_law_461 6 rfl ?_
  refine T_iconst (pc := 463) C dL_law_463 ?_
  refine T_iadd (pc := 464) C dL_law_464 ?_
  refine T_sld sx (pc := 465) C hsl g1 dL_law_465 ?_
  refine T_aload_n (pc := 466) C dL_law_466 rfl 1 rfl ?_
  refine T_iload (pc := 467) C dL_law_467 6 rfl ?_
  refine T_iconst (pc := 469) C dL_law_469 ?_
  refine T_iadd (pc := 470) C dL_law_470 ?_
  refine T_sld sx (pc := 471) C hsl g2 dL_law_471 ?_
  refine T_lmi (pc := 472) C [vi (scv xs (i + 1)), vi (scv xs (i + 2))] [] (fun o h9 hw => ct_X13_removeWalk N v3.1.2.1 (scv xs (i + 1)) (scv xs (i + 2)) (scv_rng _ _) (scv_rng _ _) hw o h9) kq_6 cm_X13_removeWalk rcm rfl rfl (Nat.le_of_ble_eq_true rfl) ⟨⟨by decide, by decide⟩, by show _ + 0 ≤ room_1.cells; have := rmC1; omega, by show _ + 0 ≤ room_1.slots; have := rmS1; omega⟩ (a' := a + 1) (b' := bb + 6) ⟨rfl, rfl⟩ dL_law_472 (fun v4 hv4 => ?_)
  refine T_istore (pc := 475) (L' := [(7, vi v4.2), (6, vi v3.2), (0, .ref sc), (1, .ref (adc 0)), (2, .ref (adm 0)), (3, .ref (adm 11)), (4, .ref (adm 12)), (5, vi i)]) C dL_law_475 (Nat.le_of_ble_eq_true rfl) rfl ?_
  refine T_aload_n (pc := 477) C dL_law_477 rfl 4 rfl ?_
  refine T_lmp (pc := 478) C [] [] (fun o h9 hw => ct_X13_thrown (v3.1.1, v4.1, v3.1.2.2).2.1 hw o h9) kq_2 cm_X13_thrown rcm rfl rfl (Nat.le_of_ble_eq_true rfl) ⟨⟨by decide, by decide⟩, by show _ + 0 ≤ room_1.cells; have := rmC1; omega, by show _ + 0 ≤ room_1.slots; have := rmS1; omega⟩ (a' := a + 1) (b' := bb + 6) ⟨rfl, rfl⟩ dL_law_478 (fun v5 hv5 => ?_)
  refine T_iload (pc := 481) C dL_law_481 1 rfl ?_
  refine T_icmp_eq (pc := 483) C 488 dL_law_483 rfl hv5.1 hv3 (fun c6 => ?_) (fun c6 => ?_)
  · refine T_iload (pc := 488) C dL_law_488 1 rfl ?_
    refine T_if_ne (pc := 490) C 505 dL_law_490 rfl hv3 (fun c7 => ?_) (fun c7 => ?_)
    · refine T_goto (pc := 505) C 3728 dL_law_505 rfl ?_
      refine T_iinc (pc := 3728) (L' := [(5, vi (i + 5)), (7, vi v4.2), (6, vi v3.2), (0, .ref sc), (1, .ref (adc 0)), (2, .ref (adm 0)), (3, .ref (adm 11)), (4, .ref (adm 12))]) C dL_law_3728 (Nat.le_of_ble_eq_true rfl) 7 rfl rfl ?_
      refine T_goto (pc := 3731) C 28 dL_law_3731 rfl ?_
      refine T_sub (L' := [(0, .ref sc), (1, .ref (adc 0)), (2, .ref (adm 0)), (3, .ref (adm 11)), (4, .ref (adm 12)), (5, vi (i + 5))]) [3, 4, 5, 6, 7, 0] rfl ?_
      exact ih (v3.1.1, v4.1, v3.1.2.2) (i + 5) _ _ (by unfold rng; omega) (stp (c := 1) ha (by decide)) (stp (c := 6) hb (by decide))
    · refine T_aload_n (pc := 493) C dL_law_493 rfl 5 rfl ?_
      refine T_iconst (pc := 494) C dL_law_494 ?_
      refine T_lald (pc := 495) C dL_law_495 (fun o8 => ?_)
      refine T_iload (pc := 496) C dL_law_496 0 rfl ?_
      refine T_i2l (pc := 498) C hv4.1 dL_law_498 ?_
      refine T_lcmp (pc := 499) C o8 hv4.1 dL_law_499 ?_
      refine T_if_eq (pc := 500) C 505 dL_law_500 rfl (lcm_rng _ _) (fun c9 => ?_) (fun c9 => ?_)
      · refine T_goto (pc := 505) C 3728 dL_law_505 rfl ?_
        refine T_iinc (pc := 3728) (L' := [(5, vi (i + 5)), (7, vi v4.2), (6, vi v3.2), (0, .ref sc), (1, .ref (adc 0)), (2, .ref (adm 0)), (3, .ref (adm 11)), (4, .ref (adm 12))]) C dL_law_3728 (Nat.le_of_ble_eq_true rfl) 7 rfl rfl ?_
        refine T_goto (pc := 3731) C 28 dL_law_3731 rfl ?_
        refine T_sub (L' := [(0, .ref sc), (1, .ref (adc 0)), (2, .ref (adm 0)), (3, .ref (adm 11)), (4, .ref (adm 12)), (5, vi (i + 5))]) [3, 4, 5, 6, 7, 0] rfl ?_
        exact ih (v3.1.1, v4.1, v3.1.2.2) (i + 5) _ _ (by unfold rng; omega) (stp (c := 1) ha (by decide)) (stp (c := 6) hb (by decide))
      · refine T_iconst (pc := 503) C dL_law_503 ?_
        exact T_none
  · refine T_iconst (pc := 486) C dL_law_486 ?_
    exact T_none
noncomputable def f_law_3 (sq : Nat) (xs : Nat → Int32) (N : Nat) (rec : SL → Int → Option Unit) (σ : SL) (i : Int) : Option Unit :=
  if 0 ≤ (i + 1) ∧ (i + 1) < (sq : Int) then if 0 ≤ (i + 2) ∧ (i + 2) < (sq : Int) then if 0 ≤ (i + 3) ∧ (i + 3) < (sq : Int) then if 0 ≤ (i + 4) ∧ (i + 4) < (sq : Int) then (f_L_addLine N σ (scv xs (i + 1)) (scv xs (i + 2)) (scv xs (i + 3)) (scv xs (i + 4))).bind fun v5 => (f_X13_addLine N v5.1.2.1 (scv xs (i + 1)) (scv xs (i + 2)) (scv xs (i + 3)) (scv xs (i + 4))).bind fun v6 => (f_X13_thrown (v5.1.1, v6.1, v5.1.2.2).2.1).bind fun v7 => (if v7 = v5.2 then (if v5.2 = 0 then (if (lcm ((v5.1.1, v6.1, v5.1.2.2).2.2.1) v6.2) = 0 then rec (v5.1.1, v6.1, v5.1.2.2) (i + 5) else none) else rec (v5.1.1, v6.1, v5.1.2.2) (i + 5)) else none) else none else none else none else none
theorem lc_3 {X : vjX} {A : Nat → Prop} {Q : State → Prop} {cy : Nat → ClassId} {adc adm : Nat → Nat} {E : Nat → Nat → Nat} {G : va_G} {Z : vZ} {sa : Nat → Nat} {sc sq : Nat} {xs : Nat → Int32} (zk : Zk Z E) (zy : Zy Z E sa) (zs : ZS Z E) (zE : ZE Z) (zp : ZP Z) (zd : ZD Z E) (hst : X.2.1.stackTraces = false) (hZ : Zx Z X (YL cy adc adm E G A 9 Q)) (sx : SX X A sc sq xs) (hL : sq ≤ 2560) (C : Cx X (YL cy adc adm E G A 9 Q) cL_law RL (some .boolean) room_1 (tyL cy)) (N : Nat) (n : Nat) (rec : SL → Int → Option Unit) (ih : ∀ (σ : SL) (i : Int) (a bb : Nat), rng i → a + n * 1000 ≤ 600000 → bb + n * 13000 ≤ 7200000 → T X (YL cy adc adm E G A 9 Q) (fun (_ : Unit) => ∀ (q : SL) (a bb : Nat), a ≤ 600000 → bb ≤ 7200000 → J X (YL cy adc adm E G A 9 Q) a bb 3734 [] [] q) a bb 28 [(0, .ref sc), (1, .ref (adc 0)), (2, .ref (adm 0)), (3, .ref (adm 11)), (4, .ref (adm 12)), (5, vi i)] [] σ (rec σ i)) (σ : SL) (i : Int) (a bb : Nat) (hi : rng i) (hi0 : 0 ≤ i ∧ i < (sq : Int)) (ha : a + (n + 1) * 1000 ≤ 600000) (hb : bb + (n + 1) * 13000 ≤ 7200000) : T X (YL cy adc adm E G A 9 Q) (fun (_ : Unit) => ∀ (q : SL) (a bb : Nat), a ≤ 600000 → bb ≤ 7200000 → J X (YL cy adc adm E G A 9 Q) a bb 3734 [] [] q) a bb 508 [(0, .ref sc), (1, .ref (adc 0)), (2, .ref (adm 0)), (3, .ref (adm 11)), (4, .ref (adm 12)), (5, vi i)] [] σ (f_law_3 sq xs N rec σ i) := by
  have hsl : sq ≤ 2147483647 := by omega
  have hsq : rng (sq : Int) := by unfold rng; omega
  unfold f_law_3
  refine T_aload_n (pc := 508) C dL_law_508 rfl 1 rfl ?_
  refine T_aload_n (pc := 509) C dL_law_509 rfl 0 rfl ?_
  refine T_iload (pc := 510) C dL_law_510 5 rfl ?_
  refine T_iconst (pc := 512) C dL_law_512 ?_
  refine T_iadd (pc := 513) C dL_law_513 ?_
  refine T_guard (fun g1 => ?_)
  refine T_sld sx (pc := 514) C hsl g1 dL_law_514 ?_
  refine T_aload_n (pc := 515) C dL_law_515 rfl 0 rfl ?_
  refine T_iload (pc := 516) C dL_law_516 5 rfl ?_
  refine T_iconst (pc := 518) C dL_law_518 ?_
  refine T_iadd (pc := 519) C dL_law_519 ?_
  refine T_guard (fun g2 => ?_)
  refine T_sld sx (pc := 520) C hsl g2 dL_law_520 ?_
  refine T_aload_n (pc := 521) C dL_law_521 rfl 0 rfl ?_
  refine T_iload (pc := 522) C dL_law_522 5 rfl ?_
  refine T_iconst (pc := 524) C dL_law_524 ?_
  refine T_iadd (pc := 525) C dL_law_525 ?_
  refine T_guard (fun g3 => ?_)
  refine T_sld sx (pc := 526) C hsl g3 dL_law_526 ?_
  refine T_aload_n (pc := 527) C dL_law_527 rfl 0 rfl ?_
  refine T_iload (pc := 528) C dL_law_528 5 rfl ?_
  refine T_iconst (pc := 530) C dL_law_530 ?_
  refine T_iadd (pc := 531) C dL_law_531 ?_
  refine T_guard (fun g4 => ?_)
  refine T_sld sx (pc := 532) C hsl g4 dL_law_532 ?_
  refine T_aload_n (pc := 533) C dL_law_533 rfl 3 rfl ?_
  refine T_lh (pc := 534) zk.1 hZ C [.ref (adc 0), vi (scv xs (i + 1)), vi (scv xs (i + 2)), vi (scv xs (i + 3)), vi (scv xs (i + 4)), .ref (adm 11)] [] (fun o h9 hw => ct_L_addLine zk zy zs zE hst N σ (scv xs (i + 1)) (scv xs (i + 2)) (scv xs (i + 3)) (scv xs (i + 4)) (scv_rng _ _) (scv_rng _ _) (scv_rng _ _) (scv_rng _ _) hw o h9) kq_7 cm_L_addLine rfl rfl (Nat.le_of_ble_eq_true rfl) ⟨⟨by decide, by decide⟩, by show _ + 1 ≤ room_1.cells; have := rmC1; omega, by show _ + 6 ≤ room_1.slots; have := rmS1; omega⟩ (a' := a + 1) (b' := bb + 6) ⟨rfl, rfl⟩ dL_law_534 (fun v5 hv5 => ?_)
  refine T_istore (pc := 537) (L' := [(6, vi v5.2), (0, .ref sc), (1, .ref (adc 0)), (2, .ref (adm 0)), (3, .ref (adm 11)), (4, .ref (adm 12)), (5, vi i)]) C dL_law_537 (Nat.le_of_ble_eq_true rfl) rfl ?_
  refine T_aload_n (pc := 539) C dL_law_539 rfl 3 rfl ?_
  refine T_aload_n (pc := 540) C dL_law_540 rfl 1 rfl ?_
  refine T_iload (pc := 541) C dL_law_541 6 rfl ?_
  refine T_iconst (pc := 543) C dL_law_543 ?_
  refine T_iadd (pc := 544) C dL_law_544 ?_
  refine T_sld sx (pc := 545) C hsl g1 dL_law_545 ?_
  refine T_aload_n (pc := 546) C dL_law_546 rfl 1 rfl ?_
  refine T_iload (pc := 547) C dL_law_547 6 rfl ?_
  refine T_iconst (pc := 549) C dL_law_549 ?_
  refine T_iadd (pc := 550) C dL_law_550 ?_
  refine T_sld sx (pc := 551) C hsl g2 dL_law_551 ?_
  refine T_aload_n (pc := 552) C dL_law_552 rfl 1 rfl ?_
  refine T_iload (pc := 553) C dL_law_553 6 rfl ?_
  refine T_iconst (pc := 555) C dL_law_555 ?_
  refine T_iadd (pc := 556) C dL_law_556 ?_
  refine T_sld sx (pc := 557) C hsl g3 dL_law_557 ?_
  refine T_aload_n (pc := 558) C dL_law_558 rfl 1 rfl ?_
  refine T_iload (pc := 559) C dL_law_559 6 rfl ?_
  refine T_iconst (pc := 561) C dL_law_561 ?_
  refine T_iadd (pc := 562) C dL_law_562 ?_
  refine T_sld sx (pc := 563) C hsl g4 dL_law_563 ?_
  refine T_lmi (pc := 564) C [vi (scv xs (i + 1)), vi (scv xs (i + 2)), vi (scv xs (i + 3)), vi (scv xs (i + 4))] [] (fun o h9 hw => ct_X13_addLine N v5.1.2.1 (scv xs (i + 1)) (scv xs (i + 2)) (scv xs (i + 3)) (scv xs (i + 4)) (scv_rng _ _) (scv_rng _ _) (scv_rng _ _) (scv_rng _ _) hw o h9) kq_8 cm_X13_addLine rcm rfl rfl (Nat.le_of_ble_eq_true rfl) ⟨⟨by decide, by decide⟩, by show _ + 0 ≤ room_1.cells; have := rmC1; omega, by show _ + 0 ≤ room_1.slots; have := rmS1; omega⟩ (a' := a + 1) (b' := bb + 6) ⟨rfl, rfl⟩ dL_law_564 (fun v6 hv6 => ?_)
  refine T_istore (pc := 567) (L' := [(7, vi v6.2), (6, vi v5.2), (0, .ref sc), (1, .ref (adc 0)), (2, .ref (adm 0)), (3, .ref (adm 11)), (4, .ref (adm 12)), (5, vi i)]) C dL_law_567 (Nat.le_of_ble_eq_true rfl) rfl ?_
  refine T_aload_n (pc := 569) C dL_law_569 rfl 4 rfl ?_
  refine T_lmp (pc := 570) C [] [] (fun o h9 hw => ct_X13_thrown (v5.1.1, v6.1, v5.1.2.2).2.1 hw o h9) kq_2 cm_X13_thrown rcm rfl rfl (Nat.le_of_ble_eq_true rfl) ⟨⟨by decide, by decide⟩, by show _ + 0 ≤ room_1.cells; have := rmC1; omega, by show _ + 0 ≤ room_1.slots; have := rmS1; omega⟩ (a' := a + 1) (b' := bb + 6) ⟨rfl, rfl⟩ dL_law_570 (fun v7 hv7 => ?_)
  refine T_iload (pc := 573) C dL_law_573 1 rfl ?_
  refine T_icmp_eq (pc := 575) C 580 dL_law_575 rfl hv7.1 hv5 (fun c8 => ?_) (fun c8 => ?_)
  · refine T_iload (pc := 580) C dL_law_580 1 rfl ?_
    refine T_if_ne (pc := 582) C 597 dL_law_582 rfl hv5 (fun c9 => ?_) (fun c9 => ?_)
    · refine T_goto (pc := 597) C 3728 dL_law_597 rfl ?_
      refine T_iinc (pc := 3728) (L' := [(5, vi (i + 5)), (7, vi v6.2), (6, vi v5.2), (0, .ref sc), (1, .ref (adc 0)), (2, .ref (adm 0)), (3, .ref (adm 11)), (4, .ref (adm 12))]) C dL_law_3728 (Nat.le_of_ble_eq_true rfl) 7 rfl rfl ?_
      refine T_goto (pc := 3731) C 28 dL_law_3731 rfl ?_
      refine T_sub (L' := [(0, .ref sc), (1, .ref (adc 0)), (2, .ref (adm 0)), (3, .ref (adm 11)), (4, .ref (adm 12)), (5, vi (i + 5))]) [3, 4, 5, 6, 7, 0] rfl ?_
      exact ih (v5.1.1, v6.1, v5.1.2.2) (i + 5) _ _ (by unfold rng; omega) (stp (c := 1) ha (by decide)) (stp (c := 6) hb (by decide))
    · refine T_aload_n (pc := 585) C dL_law_585 rfl 5 rfl ?_
      refine T_iconst (pc := 586) C dL_law_586 ?_
      refine T_lald (pc := 587) C dL_law_587 (fun o10 => ?_)
      refine T_iload (pc := 588) C dL_law_588 0 rfl ?_
      refine T_i2l (pc := 590) C hv6.1 dL_law_590 ?_
      refine T_lcmp (pc := 591) C o10 hv6.1 dL_law_591 ?_
      refine T_if_eq (pc := 592) C 597 dL_law_592 rfl (lcm_rng _ _) (fun c11 => ?_) (fun c11 => ?_)
      · refine T_goto (pc := 597) C 3728 dL_law_597 rfl ?_
        refine T_iinc (pc := 3728) (L' := [(5, vi (i + 5)), (7, vi v6.2), (6, vi v5.2), (0, .ref sc), (1, .ref (adc 0)), (2, .ref (adm 0)), (3, .ref (adm 11)), (4, .ref (adm 12))]) C dL_law_3728 (Nat.le_of_ble_eq_true rfl) 7 rfl rfl ?_
        refine T_goto (pc := 3731) C 28 dL_law_3731 rfl ?_
        refine T_sub (L' := [(0, .ref sc), (1, .ref (adc 0)), (2, .ref (adm 0)), (3, .ref (adm 11)), (4, .ref (adm 12)), (5, vi (i + 5))]) [3, 4, 5, 6, 7, 0] rfl ?_
        exact ih (v5.1.1, v6.1, v5.1.2.2) (i + 5) _ _ (by unfold rng; omega) (stp (c := 1) ha (by decide)) (stp (c := 6) hb (by decide))
      · refine T_iconst (pc := 595) C dL_law_595 ?_
        exact T_none
  · refine T_iconst (pc := 578) C dL_law_578 ?_
    exact T_none
noncomputable def f_law_4 (sq : Nat) (xs : Nat → Int32) (N : Nat) (rec : SL → Int → Option Unit) (σ : SL) (i : Int) : Option Unit :=
  if 0 ≤ (i + 1) ∧ (i + 1) < (sq : Int) then if 0 ≤ (i + 2) ∧ (i + 2) < (sq : Int) then (f_L_extendLine N σ (scv xs (i + 1)) (scv xs (i + 2))).bind fun v3 => (f_X13_extendLine N v3.1.2.1 (scv xs (i + 1)) (scv xs (i + 2))).bind fun v4 => (f_X13_thrown (v3.1.1, v4.1, v3.1.2.2).2.1).bind fun v5 => (if v5 = v3.2 then (if v3.2 = 0 then (if (lcm ((v3.1.1, v4.1, v3.1.2.2).2.2.1) v4.2) = 0 then rec (v3.1.1, v4.1, v3.1.2.2) (i + 5) else none) else rec (v3.1.1, v4.1, v3.1.2.2) (i + 5)) else none) else none else none
theorem lc_4 {X : vjX} {A : Nat → Prop} {Q : State → Prop} {cy : Nat → ClassId} {adc adm : Nat → Nat} {E : Nat → Nat → Nat} {G : va_G} {Z : vZ} {sa : Nat → Nat} {sc sq : Nat} {xs : Nat → Int32} (zk : Zk Z E) (zy : Zy Z E sa) (zs : ZS Z E) (zE : ZE Z) (zp : ZP Z) (zd : ZD Z E) (hst : X.2.1.stackTraces = false) (hZ : Zx Z X (YL cy adc adm E G A 9 Q)) (sx : SX X A sc sq xs) (hL : sq ≤ 2560) (C : Cx X (YL cy adc adm E G A 9 Q) cL_law RL (some .boolean) room_1 (tyL cy)) (N : Nat) (n : Nat) (rec : SL → Int → Option Unit) (ih : ∀ (σ : SL) (i : Int) (a bb : Nat), rng i → a + n * 1000 ≤ 600000 → bb + n * 13000 ≤ 7200000 → T X (YL cy adc adm E G A 9 Q) (fun (_ : Unit) => ∀ (q : SL) (a bb : Nat), a ≤ 600000 → bb ≤ 7200000 → J X (YL cy adc adm E G A 9 Q) a bb 3734 [] [] q) a bb 28 [(0, .ref sc), (1, .ref (adc 0)), (2, .ref (adm 0)), (3, .ref (adm 11)), (4, .ref (adm 12)), (5, vi i)] [] σ (rec σ i)) (σ : SL) (i : Int) (a bb : Nat) (hi : rng i) (hi0 : 0 ≤ i ∧ i < (sq : Int)) (ha : a + (n + 1) * 1000 ≤ 600000) (hb : bb + (n + 1) * 13000 ≤ 7200000) : T X (YL cy adc adm E G A 9 Q) (fun (_ : Unit) => ∀ (q : SL) (a bb : Nat), a ≤ 600000 → bb ≤ 7200000 → J X (YL cy adc adm E G A 9 Q) a bb 3734 [] [] q) a bb 600 [(0, .ref sc), (1, .ref (adc 0)), (2, .ref (adm 0)), (3, .ref (adm 11)), (4, .ref (adm 12)), (5, vi i)] [] σ (f_law_4 sq xs N rec σ i) := by
  have hsl : sq ≤ 2147483647 := by omega
  have hsq : rng (sq : Int) := by unfold rng; omega
  unfold f_law_4
  refine T_aload_n (pc := 600) C dL_law_600 rfl 1 rfl ?_
  refine T_aload_n (pc := 601) C dL_law_601 rfl 0 rfl ?_
  refine T_iload (pc := 602) C dL_law_602 5 rfl ?_
  refine T_iconst (pc := 604) C dL_law_604 ?_
  refine T_iadd (pc := 605) C dL_law_605 ?_
  refine T_guard (fun g1 => ?_)
  refine T_sld sx (pc := 606) C hsl g1 dL_law_606 ?_
  refine T_aload_n (pc := 607) C dL_law_607 rfl 0 rfl ?_
  refine T_iload (pc := 608) C dL_law_608 5 rfl ?_
  refine T_iconst (pc := 610) C dL_law_610 ?_
  refine T_iadd (pc := 611) C dL_law_611 ?_
  refine T_guard (fun g2 => ?_)
  refine T_sld sx (pc := 612) C hsl g2 dL_law_612 ?_
  refine T_aload_n (pc := 613) C dL_law_613 rfl 3 rfl ?_
  refine T_lh (pc := 614) zk.1 hZ C [.ref (adc 0), vi (scv xs (i + 1)), vi (scv xs (i + 2)), .ref (adm 11)] [] (fun o h9 hw => ct_L_extendLine zk zy zs zE hst N σ (scv xs (i + 1)) (scv xs (i + 2)) (scv_rng _ _) (scv_rng _ _) hw o h9) kq_9 cm_L_extendLine rfl rfl (Nat.le_of_ble_eq_true rfl) ⟨⟨by decide, by decide⟩, by show _ + 1 ≤ room_1.cells; have := rmC1; omega, by show _ + 6 ≤ room_1.slots; have := rmS1; omega⟩ (a' := a + 1) (b' := bb + 6) ⟨rfl, rfl⟩ dL_law_614 (fun v3 hv3 => ?_)
  refine T_istore (pc := 617) (L' := [(6, vi v3.2), (0, .ref sc), (1, .ref (adc 0)), (2, .ref (adm 0)), (3, .ref (adm 11)), (4, .ref (adm 12)), (5, vi i)]) C dL_law_617 (Nat.le_of_ble_eq_true rfl) rfl ?_
  refine T_aload_n (pc := 619) C dL_law_619 rfl 3 rfl ?_
  refine T_aload_n (pc := 620) C dL_law_620 rfl 1 rfl ?_
  refine T_iload (pc := 621) C dL_law_621 6 rfl ?_
  refine T_iconst (pc := 623) C dL_law_623 ?_
  refine T_iadd (pc := 624) C dL_law_624 ?_
  refine T_sld sx (pc := 625) C hsl g1 dL_law_625 ?_
  refine T_aload_n (pc := 626) C dL_law_626 rfl 1 rfl ?_
  refine T_iload (pc := 627) C dL_law_627 6 rfl ?_
  refine T_iconst (pc := 629) C dL_law_629 ?_
  refine T_iadd (pc := 630) C dL_law_630 ?_
  refine T_sld sx (pc := 631) C hsl g2 dL_law_631 ?_
  refine T_lmi (pc := 632) C [vi (scv xs (i + 1)), vi (scv xs (i + 2))] [] (fun o h9 hw => ct_X13_extendLine N v3.1.2.1 (scv xs (i + 1)) (scv xs (i + 2)) (scv_rng _ _) (scv_rng _ _) hw o h9) kq_10 cm_X13_extendLine rcm rfl rfl (Nat.le_of_ble_eq_true rfl) ⟨⟨by decide, by decide⟩, by show _ + 0 ≤ room_1.cells; have := rmC1; omega, by show _ + 0 ≤ room_1.slots; have := rmS1; omega⟩ (a' := a + 1) (b' := bb + 6) ⟨rfl, rfl⟩ dL_law_632 (fun v4 hv4 => ?_)
  refine T_istore (pc := 635) (L' := [(7, vi v4.2), (6, vi v3.2), (0, .ref sc), (1, .ref (adc 0)), (2, .ref (adm 0)), (3, .ref (adm 11)), (4, .ref (adm 12)), (5, vi i)]) C dL_law_635 (Nat.le_of_ble_eq_true rfl) rfl ?_
  refine T_aload_n (pc := 637) C dL_law_637 rfl 4 rfl ?_
  refine T_lmp (pc := 638) C [] [] (fun o h9 hw => ct_X13_thrown (v3.1.1, v4.1, v3.1.2.2).2.1 hw o h9) kq_2 cm_X13_thrown rcm rfl rfl (Nat.le_of_ble_eq_true rfl) ⟨⟨by decide, by decide⟩, by show _ + 0 ≤ room_1.cells; have := rmC1; omega, by show _ + 0 ≤ room_1.slots; have := rmS1; omega⟩ (a' := a + 1) (b' := bb + 6) ⟨rfl, rfl⟩ dL_law_638 (fun v5 hv5 => ?_)
  refine T_iload (pc := 641) C dL_law_641 1 rfl ?_
  refine T_icmp_eq (pc := 643) C 648 dL_law_643 rfl hv5.1 hv3 (fun c6 => ?_) (fun c6 => ?_)
  · refine T_iload (pc := 648) C dL_law_648 1 rfl ?_
    refine T_if_ne (pc := 650) C 665 dL_law_650 rfl hv3 (fun c7 => ?_) (fun c7 => ?_)
    · refine T_goto (pc := 665) C 3728 dL_law_665 rfl ?_
      refine T_iinc (pc := 3728) (L' := [(5, vi (i + 5)), (7, vi v4.2), (6, vi v3.2), (0, .ref sc), (1, .ref (adc 0)), (2, .ref (adm 0)), (3, .ref (adm 11)), (4, .ref (adm 12))]) C dL_law_3728 (Nat.le_of_ble_eq_true rfl) 7 rfl rfl ?_
      refine T_goto (pc := 3731) C 28 dL_law_3731 rfl ?_
      refine T_sub (L' := [(0, .ref sc), (1, .ref (adc 0)), (2, .ref (adm 0)), (3, .ref (adm 11)), (4, .ref (adm 12)), (5, vi (i + 5))]) [3, 4, 5, 6, 7, 0] rfl ?_
      exact ih (v3.1.1, v4.1, v3.1.2.2) (i + 5) _ _ (by unfold rng; omega) (stp (c := 1) ha (by decide)) (stp (c := 6) hb (by decide))
    · refine T_aload_n (pc := 653) C dL_law_653 rfl 5 rfl ?_
      refine T_iconst (pc := 654) C dL_law_654 ?_
      refine T_lald (pc := 655) C dL_law_655 (fun o8 => ?_)
      refine T_iload (pc := 656) C dL_law_656 0 rfl ?_
      refine T_i2l (pc := 658) C hv4.1 dL_law_658 ?_
      refine T_lcmp (pc := 659) C o8 hv4.1 dL_law_659 ?_
      refine T_if_eq (pc := 660) C 665 dL_law_660 rfl (lcm_rng _ _) (fun c9 => ?_) (fun c9 => ?_)
      · refine T_goto (pc := 665) C 3728 dL_law_665 rfl ?_
        refine T_iinc (pc := 3728) (L' := [(5, vi (i + 5)), (7, vi v4.2), (6, vi v3.2), (0, .ref sc), (1, .ref (adc 0)), (2, .ref (adm 0)), (3, .ref (adm 11)), (4, .ref (adm 12))]) C dL_law_3728 (Nat.le_of_ble_eq_true rfl) 7 rfl rfl ?_
        refine T_goto (pc := 3731) C 28 dL_law_3731 rfl ?_
        refine T_sub (L' := [(0, .ref sc), (1, .ref (adc 0)), (2, .ref (adm 0)), (3, .ref (adm 11)), (4, .ref (adm 12)), (5, vi (i + 5))]) [3, 4, 5, 6, 7, 0] rfl ?_
        exact ih (v3.1.1, v4.1, v3.1.2.2) (i + 5) _ _ (by unfold rng; omega) (stp (c := 1) ha (by decide)) (stp (c := 6) hb (by decide))
      · refine T_iconst (pc := 663) C dL_law_663 ?_
        exact T_none
  · refine T_iconst (pc := 646) C dL_law_646 ?_
    exact T_none
noncomputable def f_law_5 (sq : Nat) (xs : Nat → Int32) (N : Nat) (rec : SL → Int → Option Unit) (σ : SL) (i : Int) : Option Unit :=
  if 0 ≤ (i + 1) ∧ (i + 1) < (sq : Int) then (f_L_shortenLine N σ (scv xs (i + 1))).bind fun v2 => (f_X13_shortenLine N v2.1.2.1 (scv xs (i + 1))).bind fun v3 => (f_X13_thrown (v2.1.1, v3.1, v2.1.2.2).2.1).bind fun v4 => (if v4 = v2.2 then (if v2.2 = 0 then (if (lcm ((v2.1.1, v3.1, v2.1.2.2).2.2.1) v3.2) = 0 then rec (v2.1.1, v3.1, v2.1.2.2) (i + 5) else none) else rec (v2.1.1, v3.1, v2.1.2.2) (i + 5)) else none) else none
theorem lc_5 {X : vjX} {A : Nat → Prop} {Q : State → Prop} {cy : Nat → ClassId} {adc adm : Nat → Nat} {E : Nat → Nat → Nat} {G : va_G} {Z : vZ} {sa : Nat → Nat} {sc sq : Nat} {xs : Nat → Int32} (zk : Zk Z E) (zy : Zy Z E sa) (zs : ZS Z E) (zE : ZE Z) (zp : ZP Z) (zd : ZD Z E) (hst : X.2.1.stackTraces = false) (hZ : Zx Z X (YL cy adc adm E G A 9 Q)) (sx : SX X A sc sq xs) (hL : sq ≤ 2560) (C : Cx X (YL cy adc adm E G A 9 Q) cL_law RL (some .boolean) room_1 (tyL cy)) (N : Nat) (n : Nat) (rec : SL → Int → Option Unit) (ih : ∀ (σ : SL) (i : Int) (a bb : Nat), rng i → a + n * 1000 ≤ 600000 → bb + n * 13000 ≤ 7200000 → T X (YL cy adc adm E G A 9 Q) (fun (_ : Unit) => ∀ (q : SL) (a bb : Nat), a ≤ 600000 → bb ≤ 7200000 → J X (YL cy adc adm E G A 9 Q) a bb 3734 [] [] q) a bb 28 [(0, .ref sc), (1, .ref (adc 0)), (2, .ref (adm 0)), (3, .ref (adm 11)), (4, .ref (adm 12)), (5, vi i)] [] σ (rec σ i)) (σ : SL) (i : Int) (a bb : Nat) (hi : rng i) (hi0 : 0 ≤ i ∧ i < (sq : Int)) (ha : a + (n + 1) * 1000 ≤ 600000) (hb : bb + (n + 1) * 13000 ≤ 7200000) : T X (YL cy adc adm E G A 9 Q) (fun (_ : Unit) => ∀ (q : SL) (a bb : Nat), a ≤ 600000 → bb ≤ 7200000 → J X (YL cy adc adm E G A 9 Q) a bb 3734 [] [] q) a bb 668 [(0, .ref sc), (1, .ref (adc 0)), (2, .ref (adm 0)), (3, .ref (adm 11)), (4, .ref (adm 12)), (5, vi i)] [] σ (f_law_5 sq xs N rec σ i) := by
  have hsl : sq ≤ 2147483647 := by omega
  have hsq : rng (sq : Int) := by unfold rng; omega
  unfold f_law_5
  refine T_aload_n (pc := 668) C dL_law_668 rfl 1 rfl ?_
  refine T_aload_n (pc := 669) C dL_law_669 rfl 0 rfl ?_
  refine T_iload (pc := 670) C dL_law_670 5 rfl ?_
  refine T_iconst (pc := 672) C dL_law_672 ?_
  refine T_iadd (pc := 673) C dL_law_673 ?_
  refine T_guard (fun g1 => ?_)
  refine T_sld sx (pc := 674) C hsl g1 dL_law_674 ?_
  refine T_aload_n (pc := 675) C dL_law_675 rfl 3 rfl ?_
  refine T_lh (pc := 676) zk.1 hZ C [.ref (adc 0), vi (scv xs (i + 1)), .ref (adm 11)] [] (fun o h9 hw => ct_L_shortenLine zk zy zs zE hst N σ (scv xs (i + 1)) (scv_rng _ _) hw o h9) kq_11 cm_L_shortenLine rfl rfl (Nat.le_of_ble_eq_true rfl) ⟨⟨by decide, by decide⟩, by show _ + 1 ≤ room_1.cells; have := rmC1; omega, by show _ + 6 ≤ room_1.slots; have := rmS1; omega⟩ (a' := a + 1) (b' := bb + 6) ⟨rfl, rfl⟩ dL_law_676 (fun v2 hv2 => ?_)
  refine T_istore (pc := 679) (L' := [(6, vi v2.2), (0, .ref sc), (1, .ref (adc 0)), (2, .ref (adm 0)), (3, .ref (adm 11)), (4, .ref (adm 12)), (5, vi i)]) C dL_law_679 (Nat.le_of_ble_eq_true rfl) rfl ?_
  refine T_aload_n (pc := 681) C dL_law_681 rfl 3 rfl ?_
  refine T_aload_n (pc := 682) C dL_law_682 rfl 1 rfl ?_
  refine T_iload (pc := 683) C dL_law_683 6 rfl ?_
  refine T_iconst (pc := 685) C dL_law_685 ?_
  refine T_iadd (pc := 686) C dL_law_686 ?_
  refine T_sld sx (pc := 687) C hsl g1 dL_law_687 ?_
  refine T_lmi (pc := 688) C [vi (scv xs (i + 1))] [] (fun o h9 hw => ct_X13_shortenLine N v2.1.2.1 (scv xs (i + 1)) (scv_rng _ _) hw o h9) kq_12 cm_X13_shortenLine rcm rfl rfl (Nat.le_of_ble_eq_true rfl) ⟨⟨by decide, by decide⟩, by show _ + 0 ≤ room_1.cells; have := rmC1; omega, by show _ + 0 ≤ room_1.slots; have := rmS1; omega⟩ (a' := a + 1) (b' := bb + 6) ⟨rfl, rfl⟩ dL_law_688 (fun v3 hv3 => ?_)
  refine T_istore (pc := 691) (L' := [(7, vi v3.2), (6, vi v2.2), (0, .ref sc), (1, .ref (adc 0)), (2, .ref (adm 0)), (3, .ref (adm 11)), (4, .ref (adm 12)), (5, vi i)]) C dL_law_691 (Nat.le_of_ble_eq_true rfl) rfl ?_
  refine T_aload_n (pc := 693) C dL_law_693 rfl 4 rfl ?_
  refine T_lmp (pc := 694) C [] [] (fun o h9 hw => ct_X13_thrown (v2.1.1, v3.1, v2.1.2.2).2.1 hw o h9) kq_2 cm_X13_thrown rcm rfl rfl (Nat.le_of_ble_eq_true rfl) ⟨⟨by decide, by decide⟩, by show _ + 0 ≤ room_1.cells; have := rmC1; omega, by show _ + 0 ≤ room_1.slots; have := rmS1; omega⟩ (a' := a + 1) (b' := bb + 6) ⟨rfl, rfl⟩ dL_law_694 (fun v4 hv4 => ?_)
  refine T_iload (pc := 697) C dL_law_697 1 rfl ?_
  refine T_icmp_eq (pc := 699) C 704 dL_law_699 rfl hv4.1 hv2 (fun c5 => ?_) (fun c5 => ?_)
  · refine T_iload (pc := 704) C dL_law_704 1 rfl ?_
    refine T_if_ne (pc := 706) C 721 dL_law_706 rfl hv2 (fun c6 => ?_) (fun c6 => ?_)
    · refine T_goto (pc := 721) C 3728 dL_law_721 rfl ?_
      refine T_iinc (pc := 3728) (L' := [(5, vi (i + 5)), (7, vi v3.2), (6, vi v2.2), (0, .ref sc), (1, .ref (adc 0)), (2, .ref (adm 0)), (3, .ref (adm 11)), (4, .ref (adm 12))]) C dL_law_3728 (Nat.le_of_ble_eq_true rfl) 7 rfl rfl ?_
      refine T_goto (pc := 3731) C 28 dL_law_3731 rfl ?_
      refine T_sub (L' := [(0, .ref sc), (1, .ref (adc 0)), (2, .ref (adm 0)), (3, .ref (adm 11)), (4, .ref (adm 12)), (5, vi (i + 5))]) [3, 4, 5, 6, 7, 0] rfl ?_
      exact ih (v2.1.1, v3.1, v2.1.2.2) (i + 5) _ _ (by unfold rng; omega) (stp (c := 1) ha (by decide)) (stp (c := 6) hb (by decide))
    · refine T_aload_n (pc := 709) C dL_law_709 rfl 5 rfl ?_
      refine T_iconst (pc := 710) C dL_law_710 ?_
      refine T_lald (pc := 711) C dL_law_711 (fun o7 => ?_)
      refine T_iload (pc := 712) C dL_law_712 0 rfl ?_
      refine T_i2l (pc := 714) C hv3.1 dL_law_714 ?_
      refine T_lcmp (pc := 715) C o7 hv3.1 dL_law_715 ?_
      refine T_if_eq (pc := 716) C 721 dL_law_716 rfl (lcm_rng _ _) (fun c8 => ?_) (fun c8 => ?_)
      · refine T_goto (pc := 721) C 3728 dL_law_721 rfl ?_
        refine T_iinc (pc := 3728) (L' := [(5, vi (i + 5)), (7, vi v3.2), (6, vi v2.2), (0, .ref sc), (1, .ref (adc 0)), (2, .ref (adm 0)), (3, .ref (adm 11)), (4, .ref (adm 12))]) C dL_law_3728 (Nat.le_of_ble_eq_true rfl) 7 rfl rfl ?_
        refine T_goto (pc := 3731) C 28 dL_law_3731 rfl ?_
        refine T_sub (L' := [(0, .ref sc), (1, .ref (adc 0)), (2, .ref (adm 0)), (3, .ref (adm 11)), (4, .ref (adm 12)), (5, vi (i + 5))]) [3, 4, 5, 6, 7, 0] rfl ?_
        exact ih (v2.1.1, v3.1, v2.1.2.2) (i + 5) _ _ (by unfold rng; omega) (stp (c := 1) ha (by decide)) (stp (c := 6) hb (by decide))
      · refine T_iconst (pc := 719) C dL_law_719 ?_
        exact T_none
  · refine T_iconst (pc := 702) C dL_law_702 ?_
    exact T_none
noncomputable def f_law_6 (sq : Nat) (xs : Nat → Int32) (N : Nat) (rec : SL → Int → Option Unit) (σ : SL) (i : Int) : Option Unit :=
  if 0 ≤ (i + 1) ∧ (i + 1) < (sq : Int) then (if (scv xs (i + 1)) = 0 then (f_X12_setRain N σ.1 0).bind fun v3 => (if (scv xs (i + 1)) = 0 then (f_X13_setRain N (v3.1, σ.2).2.1 0).bind fun v5 => (if v3.2 = v5.2 then rec ((v3.1, σ.2).1, v5.1, (v3.1, σ.2).2.2) (i + 5) else none) else (f_X13_setRain N (v3.1, σ.2).2.1 1).bind fun v7 => (if v3.2 = v7.2 then rec ((v3.1, σ.2).1, v7.1, (v3.1, σ.2).2.2) (i + 5) else none)) else (f_X12_setRain N σ.1 1).bind fun v9 => (if (scv xs (i + 1)) = 0 then (f_X13_setRain N (v9.1, σ.2).2.1 0).bind fun v11 => (if v9.2 = v11.2 then rec ((v9.1, σ.2).1, v11.1, (v9.1, σ.2).2.2) (i + 5) else none) else (f_X13_setRain N (v9.1, σ.2).2.1 1).bind fun v13 => (if v9.2 = v13.2 then rec ((v9.1, σ.2).1, v13.1, (v9.1, σ.2).2.2) (i + 5) else none))) else none
theorem lc_6 {X : vjX} {A : Nat → Prop} {Q : State → Prop} {cy : Nat → ClassId} {adc adm : Nat → Nat} {E : Nat → Nat → Nat} {G : va_G} {Z : vZ} {sa : Nat → Nat} {sc sq : Nat} {xs : Nat → Int32} (zk : Zk Z E) (zy : Zy Z E sa) (zs : ZS Z E) (zE : ZE Z) (zp : ZP Z) (zd : ZD Z E) (hst : X.2.1.stackTraces = false) (hZ : Zx Z X (YL cy adc adm E G A 9 Q)) (sx : SX X A sc sq xs) (hL : sq ≤ 2560) (C : Cx X (YL cy adc adm E G A 9 Q) cL_law RL (some .boolean) room_1 (tyL cy)) (N : Nat) (n : Nat) (rec : SL → Int → Option Unit) (ih : ∀ (σ : SL) (i : Int) (a bb : Nat), rng i → a + n * 1000 ≤ 600000 → bb + n * 13000 ≤ 7200000 → T X (YL cy adc adm E G A 9 Q) (fun (_ : Unit) => ∀ (q : SL) (a bb : Nat), a ≤ 600000 → bb ≤ 7200000 → J X (YL cy adc adm E G A 9 Q) a bb 3734 [] [] q) a bb 28 [(0, .ref sc), (1, .ref (adc 0)), (2, .ref (adm 0)), (3, .ref (adm 11)), (4, .ref (adm 12)), (5, vi i)] [] σ (rec σ i)) (σ : SL) (i : Int) (a bb : Nat) (hi : rng i) (hi0 : 0 ≤ i ∧ i < (sq : Int)) (ha : a + (n + 1) * 1000 ≤ 600000) (hb : bb + (n + 1) * 13000 ≤ 7200000) : T X (YL cy adc adm E G A 9 Q) (fun (_ : Unit) => ∀ (q : SL) (a bb : Nat), a ≤ 600000 → bb ≤ 7200000 → J X (YL cy adc adm E G A 9 Q) a bb 3734 [] [] q) a bb 724 [(0, .ref sc), (1, .ref (adc 0)), (2, .ref (adm 0)), (3, .ref (adm 11)), (4, .ref (adm 12)), (5, vi i)] [] σ (f_law_6 sq xs N rec σ i) := by
  have hsl : sq ≤ 2147483647 := by omega
  have hsq : rng (sq : Int) := by unfold rng; omega
  unfold f_law_6
  refine T_aload_n (pc := 724) C dL_law_724 rfl 1 rfl ?_
  refine T_aload_n (pc := 725) C dL_law_725 rfl 0 rfl ?_
  refine T_iload (pc := 726) C dL_law_726 5 rfl ?_
  refine T_iconst (pc := 728) C dL_law_728 ?_
  refine T_iadd (pc := 729) C dL_law_729 ?_
  refine T_guard (fun g1 => ?_)
  refine T_sld sx (pc := 730) C hsl g1 dL_law_730 ?_
  refine T_if_eq (pc := 731) C 738 dL_law_731 rfl (scv_rng _ _) (fun c2 => ?_) (fun c2 => ?_)
  · refine T_iconst (pc := 738) C dL_law_738 ?_
    refine T_lz (pc := 739) zk.1 hZ C [vi 0] [] (fun o h9 hw => ct_X12_setRain zk zy N σ.1 0 (Or.inl rfl) hw o h9) kq_13 cm_X12_setRain (rcc (rfl : kd 0 = 12) (by decide) (fun _ => rfl) rfl) rfl rfl (Nat.le_of_ble_eq_true rfl) ⟨⟨by decide, by decide⟩, by show _ + 0 ≤ room_1.cells; have := rmC1; omega, by show _ + 0 ≤ room_1.slots; have := rmS1; omega⟩ (a' := a + 0) (b' := bb + 0) ⟨rfl, rfl⟩ dL_law_739 (fun v3 hv3 => ?_)
    refine T_aload_n (pc := 742) C dL_law_742 rfl 2 rfl ?_
    refine T_aload_n (pc := 743) C dL_law_743 rfl 0 rfl ?_
    refine T_iload (pc := 744) C dL_law_744 5 rfl ?_
    refine T_iconst (pc := 746) C dL_law_746 ?_
    refine T_iadd (pc := 747) C dL_law_747 ?_
    refine T_sld sx (pc := 748) C hsl g1 dL_law_748 ?_
    refine T_if_eq (pc := 749) C 756 dL_law_749 rfl (scv_rng _ _) (fun c4 => ?_) (fun c4 => ?_)
    · refine T_iconst (pc := 756) C dL_law_756 ?_
      refine T_lmi (pc := 757) C [vi 0] [vi v3.2] (fun o h9 hw => ct_X13_setRain N (v3.1, σ.2).2.1 0 (Or.inl rfl) hw o h9) kq_14 cm_X13_setRain rcm rfl rfl (Nat.le_of_ble_eq_true rfl) ⟨⟨by decide, by decide⟩, by show _ + 0 ≤ room_1.cells; have := rmC1; omega, by show _ + 0 ≤ room_1.slots; have := rmS1; omega⟩ (a' := a + 0) (b' := bb + 0) ⟨rfl, rfl⟩ dL_law_757 (fun v5 hv5 => ?_)
      refine T_icmp_eq (pc := 760) C 3728 dL_law_760 rfl hv3.1 hv5.1 (fun c6 => ?_) (fun c6 => ?_)
      · refine T_iinc (pc := 3728) (L' := [(5, vi (i + 5)), (0, .ref sc), (1, .ref (adc 0)), (2, .ref (adm 0)), (3, .ref (adm 11)), (4, .ref (adm 12))]) C dL_law_3728 (Nat.le_of_ble_eq_true rfl) 5 rfl rfl ?_
        refine T_goto (pc := 3731) C 28 dL_law_3731 rfl ?_
        refine T_sub (L' := [(0, .ref sc), (1, .ref (adc 0)), (2, .ref (adm 0)), (3, .ref (adm 11)), (4, .ref (adm 12)), (5, vi (i + 5))]) [1, 2, 3, 4, 5, 0] rfl ?_
        exact ih ((v3.1, σ.2).1, v5.1, (v3.1, σ.2).2.2) (i + 5) _ _ (by unfold rng; omega) (stp (c := 0) ha (by decide)) (stp (c := 0) hb (by decide))
      · refine T_iconst (pc := 763) C dL_law_763 ?_
        exact T_none
    · refine T_iconst (pc := 752) C dL_law_752 ?_
      refine T_goto (pc := 753) C 757 dL_law_753 rfl ?_
      refine T_lmi (pc := 757) C [vi 1] [vi v3.2] (fun o h9 hw => ct_X13_setRain N (v3.1, σ.2).2.1 1 (Or.inr rfl) hw o h9) kq_14 cm_X13_setRain rcm rfl rfl (Nat.le_of_ble_eq_true rfl) ⟨⟨by decide, by decide⟩, by show _ + 0 ≤ room_1.cells; have := rmC1; omega, by show _ + 0 ≤ room_1.slots; have := rmS1; omega⟩ (a' := a + 0) (b' := bb + 0) ⟨rfl, rfl⟩ dL_law_757 (fun v7 hv7 => ?_)
      refine T_icmp_eq (pc := 760) C 3728 dL_law_760 rfl hv3.1 hv7.1 (fun c8 => ?_) (fun c8 => ?_)
      · refine T_iinc (pc := 3728) (L' := [(5, vi (i + 5)), (0, .ref sc), (1, .ref (adc 0)), (2, .ref (adm 0)), (3, .ref (adm 11)), (4, .ref (adm 12))]) C dL_law_3728 (Nat.le_of_ble_eq_true rfl) 5 rfl rfl ?_
        refine T_goto (pc := 3731) C 28 dL_law_3731 rfl ?_
        refine T_sub (L' := [(0, .ref sc), (1, .ref (adc 0)), (2, .ref (adm 0)), (3, .ref (adm 11)), (4, .ref (adm 12)), (5, vi (i + 5))]) [1, 2, 3, 4, 5, 0] rfl ?_
        exact ih ((v3.1, σ.2).1, v7.1, (v3.1, σ.2).2.2) (i + 5) _ _ (by unfold rng; omega) (stp (c := 0) ha (by decide)) (stp (c := 0) hb (by decide))
      · refine T_iconst (pc := 763) C dL_law_763 ?_
        exact T_none
  · refine T_iconst (pc := 734) C dL_law_734 ?_
    refine T_goto (pc := 735) C 739 dL_law_735 rfl ?_
    refine T_lz (pc := 739) zk.1 hZ C [vi 1] [] (fun o h9 hw => ct_X12_setRain zk zy N σ.1 1 (Or.inr rfl) hw o h9) kq_13 cm_X12_setRain (rcc (rfl : kd 0 = 12) (by decide) (fun _ => rfl) rfl) rfl rfl (Nat.le_of_ble_eq_true rfl) ⟨⟨by decide, by decide⟩, by show _ + 0 ≤ room_1.cells; have := rmC1; omega, by show _ + 0 ≤ room_1.slots; have := rmS1; omega⟩ (a' := a + 0) (b' := bb + 0) ⟨rfl, rfl⟩ dL_law_739 (fun v9 hv9 => ?_)
    refine T_aload_n (pc := 742) C dL_law_742 rfl 2 rfl ?_
    refine T_aload_n (pc := 743) C dL_law_743 rfl 0 rfl ?_
    refine T_iload (pc := 744) C dL_law_744 5 rfl ?_
    refine T_iconst (pc := 746) C dL_law_746 ?_
    refine T_iadd (pc := 747) C dL_law_747 ?_
    refine T_sld sx (pc := 748) C hsl g1 dL_law_748 ?_
    refine T_if_eq (pc := 749) C 756 dL_law_749 rfl (scv_rng _ _) (fun c10 => ?_) (fun c10 => ?_)
    · refine T_iconst (pc := 756) C dL_law_756 ?_
      refine T_lmi (pc := 757) C [vi 0] [vi v9.2] (fun o h9 hw => ct_X13_setRain N (v9.1, σ.2).2.1 0 (Or.inl rfl) hw o h9) kq_14 cm_X13_setRain rcm rfl rfl (Nat.le_of_ble_eq_true rfl) ⟨⟨by decide, by decide⟩, by show _ + 0 ≤ room_1.cells; have := rmC1; omega, by show _ + 0 ≤ room_1.slots; have := rmS1; omega⟩ (a' := a + 0) (b' := bb + 0) ⟨rfl, rfl⟩ dL_law_757 (fun v11 hv11 => ?_)
      refine T_icmp_eq (pc := 760) C 3728 dL_law_760 rfl hv9.1 hv11.1 (fun c12 => ?_) (fun c12 => ?_)
      · refine T_iinc (pc := 3728) (L' := [(5, vi (i + 5)), (0, .ref sc), (1, .ref (adc 0)), (2, .ref (adm 0)), (3, .ref (adm 11)), (4, .ref (adm 12))]) C dL_law_3728 (Nat.le_of_ble_eq_true rfl) 5 rfl rfl ?_
        refine T_goto (pc := 3731) C 28 dL_law_3731 rfl ?_
        refine T_sub (L' := [(0, .ref sc), (1, .ref (adc 0)), (2, .ref (adm 0)), (3, .ref (adm 11)), (4, .ref (adm 12)), (5, vi (i + 5))]) [1, 2, 3, 4, 5, 0] rfl ?_
        exact ih ((v9.1, σ.2).1, v11.1, (v9.1, σ.2).2.2) (i + 5) _ _ (by unfold rng; omega) (stp (c := 0) ha (by decide)) (stp (c := 0) hb (by decide))
      · refine T_iconst (pc := 763) C dL_law_763 ?_
        exact T_none
    · refine T_iconst (pc := 752) C dL_law_752 ?_
      refine T_goto (pc := 753) C 757 dL_law_753 rfl ?_
      refine T_lmi (pc := 757) C [vi 1] [vi v9.2] (fun o h9 hw => ct_X13_setRain N (v9.1, σ.2).2.1 1 (Or.inr rfl) hw o h9) kq_14 cm_X13_setRain rcm rfl rfl (Nat.le_of_ble_eq_true rfl) ⟨⟨by decide, by decide⟩, by show _ + 0 ≤ room_1.cells; have := rmC1; omega, by show _ + 0 ≤ room_1.slots; have := rmS1; omega⟩ (a' := a + 0) (b' := bb + 0) ⟨rfl, rfl⟩ dL_law_757 (fun v13 hv13 => ?_)
      refine T_icmp_eq (pc := 760) C 3728 dL_law_760 rfl hv9.1 hv13.1 (fun c14 => ?_) (fun c14 => ?_)
      · refine T_iinc (pc := 3728) (L' := [(5, vi (i + 5)), (0, .ref sc), (1, .ref (adc 0)), (2, .ref (adm 0)), (3, .ref (adm 11)), (4, .ref (adm 12))]) C dL_law_3728 (Nat.le_of_ble_eq_true rfl) 5 rfl rfl ?_
        refine T_goto (pc := 3731) C 28 dL_law_3731 rfl ?_
        refine T_sub (L' := [(0, .ref sc), (1, .ref (adc 0)), (2, .ref (adm 0)), (3, .ref (adm 11)), (4, .ref (adm 12)), (5, vi (i + 5))]) [1, 2, 3, 4, 5, 0] rfl ?_
        exact ih ((v9.1, σ.2).1, v13.1, (v9.1, σ.2).2.2) (i + 5) _ _ (by unfold rng; omega) (stp (c := 0) ha (by decide)) (stp (c := 0) hb (by decide))
      · refine T_iconst (pc := 763) C dL_law_763 ?_
        exact T_none
noncomputable def f_law_7 (sq : Nat) (xs : Nat → Int32) (N : Nat) (rec : SL → Int → Option Unit) (σ : SL) (i : Int) : Option Unit :=
  if 0 ≤ (i + 1) ∧ (i + 1) < (sq : Int) then if 0 ≤ (i + 2) ∧ (i + 2) < (sq : Int) then (f_L_setRainDelay N σ (scv xs (i + 1)) (scv xs (i + 2))).bind fun v3 => (f_X13_setRainDelay N v3.1.2.1 (scv xs (i + 1)) (scv xs (i + 2))).bind fun v4 => (f_X13_thrown (v3.1.1, v4.1, v3.1.2.2).2.1).bind fun v5 => (if v5 = v3.2 then (if v3.2 = 0 then (if (lcm ((v3.1.1, v4.1, v3.1.2.2).2.2.1) v4.2) = 0 then rec (v3.1.1, v4.1, v3.1.2.2) (i + 5) else none) else rec (v3.1.1, v4.1, v3.1.2.2) (i + 5)) else none) else none else none
theorem lc_7 {X : vjX} {A : Nat → Prop} {Q : State → Prop} {cy : Nat → ClassId} {adc adm : Nat → Nat} {E : Nat → Nat → Nat} {G : va_G} {Z : vZ} {sa : Nat → Nat} {sc sq : Nat} {xs : Nat → Int32} (zk : Zk Z E) (zy : Zy Z E sa) (zs : ZS Z E) (zE : ZE Z) (zp : ZP Z) (zd : ZD Z E) (hst : X.2.1.stackTraces = false) (hZ : Zx Z X (YL cy adc adm E G A 9 Q)) (sx : SX X A sc sq xs) (hL : sq ≤ 2560) (C : Cx X (YL cy adc adm E G A 9 Q) cL_law RL (some .boolean) room_1 (tyL cy)) (N : Nat) (n : Nat) (rec : SL → Int → Option Unit) (ih : ∀ (σ : SL) (i : Int) (a bb : Nat), rng i → a + n * 1000 ≤ 600000 → bb + n * 13000 ≤ 7200000 → T X (YL cy adc adm E G A 9 Q) (fun (_ : Unit) => ∀ (q : SL) (a bb : Nat), a ≤ 600000 → bb ≤ 7200000 → J X (YL cy adc adm E G A 9 Q) a bb 3734 [] [] q) a bb 28 [(0, .ref sc), (1, .ref (adc 0)), (2, .ref (adm 0)), (3, .ref (adm 11)), (4, .ref (adm 12)), (5, vi i)] [] σ (rec σ i)) (σ : SL) (i : Int) (a bb : Nat) (hi : rng i) (hi0 : 0 ≤ i ∧ i < (sq : Int)) (ha : a + (n + 1) * 1000 ≤ 600000) (hb : bb + (n + 1) * 13000 ≤ 7200000) : T X (YL cy adc adm E G A 9 Q) (fun (_ : Unit) => ∀ (q : SL) (a bb : Nat), a ≤ 600000 → bb ≤ 7200000 → J X (YL cy adc adm E G A 9 Q) a bb 3734 [] [] q) a bb 765 [(0, .ref sc), (1, .ref (adc 0)), (2, .ref (adm 0)), (3, .ref (adm 11)), (4, .ref (adm 12)), (5, vi i)] [] σ (f_law_7 sq xs N rec σ i) := by
  have hsl : sq ≤ 2147483647 := by omega
  have hsq : rng (sq : Int) := by unfold rng; omega
  unfold f_law_7
  refine T_aload_n (pc := 765) C dL_law_765 rfl 1 rfl ?_
  refine T_aload_n (pc := 766) C dL_law_766 rfl 0 rfl ?_
  refine T_iload (pc := 767) C dL_law_767 5 rfl ?_
  refine T_iconst (pc := 769) C dL_law_769 ?_
  refine T_iadd (pc := 770) C dL_law_770 ?_
  refine T_guard (fun g1 => ?_)
  refine T_sld sx (pc := 771) C hsl g1 dL_law_771 ?_
  refine T_aload_n (pc := 772) C dL_law_772 rfl 0 rfl ?_
  refine T_iload (pc := 773) C dL_law_773 5 rfl ?_
  refine T_iconst (pc := 775) C dL_law_775 ?_
  refine T_iadd (pc := 776) C dL_law_776 ?_
  refine T_guard (fun g2 => ?_)
  refine T_sld sx (pc := 777) C hsl g2 dL_law_777 ?_
  refine T_aload_n (pc := 778) C dL_law_778 rfl 3 rfl ?_
  refine T_lh (pc := 779) zk.1 hZ C [.ref (adc 0), vi (scv xs (i + 1)), vi (scv xs (i + 2)), .ref (adm 11)] [] (fun o h9 hw => ct_L_setRainDelay zk zy zs zE hst N σ (scv xs (i + 1)) (scv xs (i + 2)) (scv_rng _ _) (scv_rng _ _) hw o h9) kq_15 cm_L_setRainDelay rfl rfl (Nat.le_of_ble_eq_true rfl) ⟨⟨by decide, by decide⟩, by show _ + 1 ≤ room_1.cells; have := rmC1; omega, by show _ + 6 ≤ room_1.slots; have := rmS1; omega⟩ (a' := a + 1) (b' := bb + 6) ⟨rfl, rfl⟩ dL_law_779 (fun v3 hv3 => ?_)
  refine T_istore (pc := 782) (L' := [(6, vi v3.2), (0, .ref sc), (1, .ref (adc 0)), (2, .ref (adm 0)), (3, .ref (adm 11)), (4, .ref (adm 12)), (5, vi i)]) C dL_law_782 (Nat.le_of_ble_eq_true rfl) rfl ?_
  refine T_aload_n (pc := 784) C dL_law_784 rfl 3 rfl ?_
  refine T_aload_n (pc := 785) C dL_law_785 rfl 1 rfl ?_
  refine T_iload (pc := 786) C dL_law_786 6 rfl ?_
  refine T_iconst (pc := 788) C dL_law_788 ?_
  refine T_iadd (pc := 789) C dL_law_789 ?_
  refine T_sld sx (pc := 790) C hsl g1 dL_law_790 ?_
  refine T_aload_n (pc := 791) C dL_law_791 rfl 1 rfl ?_
  refine T_iload (pc := 792) C dL_law_792 6 rfl ?_
  refine T_iconst (pc := 794) C dL_law_794 ?_
  refine T_iadd (pc := 795) C dL_law_795 ?_
  refine T_sld sx (pc := 796) C hsl g2 dL_law_796 ?_
  refine T_lmi (pc := 797) C [vi (scv xs (i + 1)), vi (scv xs (i + 2))] [] (fun o h9 hw => ct_X13_setRainDelay N v3.1.2.1 (scv xs (i + 1)) (scv xs (i + 2)) (scv_rng _ _) (scv_rng _ _) hw o h9) kq_16 cm_X13_setRainDelay rcm rfl rfl (Nat.le_of_ble_eq_true rfl) ⟨⟨by decide, by decide⟩, by show _ + 0 ≤ room_1.cells; have := rmC1; omega, by show _ + 0 ≤ room_1.slots; have := rmS1; omega⟩ (a' := a + 1) (b' := bb + 6) ⟨rfl, rfl⟩ dL_law_797 (fun v4 hv4 => ?_)
  refine T_istore (pc := 800) (L' := [(7, vi v4.2), (6, vi v3.2), (0, .ref sc), (1, .ref (adc 0)), (2, .ref (adm 0)), (3, .ref (adm 11)), (4, .ref (adm 12)), (5, vi i)]) C dL_law_800 (Nat.le_of_ble_eq_true rfl) rfl ?_
  refine T_aload_n (pc := 802) C dL_law_802 rfl 4 rfl ?_
  refine T_lmp (pc := 803) C [] [] (fun o h9 hw => ct_X13_thrown (v3.1.1, v4.1, v3.1.2.2).2.1 hw o h9) kq_2 cm_X13_thrown rcm rfl rfl (Nat.le_of_ble_eq_true rfl) ⟨⟨by decide, by decide⟩, by show _ + 0 ≤ room_1.cells; have := rmC1; omega, by show _ + 0 ≤ room_1.slots; have := rmS1; omega⟩ (a' := a + 1) (b' := bb + 6) ⟨rfl, rfl⟩ dL_law_803 (fun v5 hv5 => ?_)
  refine T_iload (pc := 806) C dL_law_806 1 rfl ?_
  refine T_icmp_eq (pc := 808) C 813 dL_law_808 rfl hv5.1 hv3 (fun c6 => ?_) (fun c6 => ?_)
  · refine T_iload (pc := 813) C dL_law_813 1 rfl ?_
    refine T_if_ne (pc := 815) C 830 dL_law_815 rfl hv3 (fun c7 => ?_) (fun c7 => ?_)
    · refine T_goto (pc := 830) C 3728 dL_law_830 rfl ?_
      refine T_iinc (pc := 3728) (L' := [(5, vi (i + 5)), (7, vi v4.2), (6, vi v3.2), (0, .ref sc), (1, .ref (adc 0)), (2, .ref (adm 0)), (3, .ref (adm 11)), (4, .ref (adm 12))]) C dL_law_3728 (Nat.le_of_ble_eq_true rfl) 7 rfl rfl ?_
      refine T_goto (pc := 3731) C 28 dL_law_3731 rfl ?_
      refine T_sub (L' := [(0, .ref sc), (1, .ref (adc 0)), (2, .ref (adm 0)), (3, .ref (adm 11)), (4, .ref (adm 12)), (5, vi (i + 5))]) [3, 4, 5, 6, 7, 0] rfl ?_
      exact ih (v3.1.1, v4.1, v3.1.2.2) (i + 5) _ _ (by unfold rng; omega) (stp (c := 1) ha (by decide)) (stp (c := 6) hb (by decide))
    · refine T_aload_n (pc := 818) C dL_law_818 rfl 5 rfl ?_
      refine T_iconst (pc := 819) C dL_law_819 ?_
      refine T_lald (pc := 820) C dL_law_820 (fun o8 => ?_)
      refine T_iload (pc := 821) C dL_law_821 0 rfl ?_
      refine T_i2l (pc := 823) C hv4.1 dL_law_823 ?_
      refine T_lcmp (pc := 824) C o8 hv4.1 dL_law_824 ?_
      refine T_if_eq (pc := 825) C 830 dL_law_825 rfl (lcm_rng _ _) (fun c9 => ?_) (fun c9 => ?_)
      · refine T_goto (pc := 830) C 3728 dL_law_830 rfl ?_
        refine T_iinc (pc := 3728) (L' := [(5, vi (i + 5)), (7, vi v4.2), (6, vi v3.2), (0, .ref sc), (1, .ref (adc 0)), (2, .ref (adm 0)), (3, .ref (adm 11)), (4, .ref (adm 12))]) C dL_law_3728 (Nat.le_of_ble_eq_true rfl) 7 rfl rfl ?_
        refine T_goto (pc := 3731) C 28 dL_law_3731 rfl ?_
        refine T_sub (L' := [(0, .ref sc), (1, .ref (adc 0)), (2, .ref (adm 0)), (3, .ref (adm 11)), (4, .ref (adm 12)), (5, vi (i + 5))]) [3, 4, 5, 6, 7, 0] rfl ?_
        exact ih (v3.1.1, v4.1, v3.1.2.2) (i + 5) _ _ (by unfold rng; omega) (stp (c := 1) ha (by decide)) (stp (c := 6) hb (by decide))
      · refine T_iconst (pc := 828) C dL_law_828 ?_
        exact T_none
  · refine T_iconst (pc := 811) C dL_law_811 ?_
    exact T_none
