set_option maxRecDepth 100000 in
theorem law_walk (X : vjX) {A : Nat → Prop} {Q : State → Prop} {cy : Nat → ClassId} {E : Nat → Nat → Nat} {sa : Nat → Nat} {G : va_G} {sc sq : Nat} {xs : Nat → Int32} (hst : X.2.1.stackTraces = false) (hZ : ZZ E sa A X.2.2.2.2.1 X.2.2.2.2.1.heap) (sx : SX X A sc sq xs) (hL : sq ≤ 2560)
    (C : ∀ {S : Type} (wl : S → va_W) (wf : S → Prop), Cx X (wl, wf, G, A, 9, Q) cL_law RL (some .boolean) room_1 (tyL cy))
    (K : ∀ (adc adm : Nat → Nat) (q : SL) (a bb : Nat), a ≤ 600000 → bb ≤ 7200000 → J X (YL cy adc adm E G A 9 Q) a bb 3734 [] [] q) : J X (YE G A 9 Q) 0 0 0 [(0, .ref sc)] [] [] := by
  have C0 : Cx X (YE G A 9 Q) cL_law RL (some .boolean) room_1 (tyL cy) := C _ _
  have hZ0 : Zx (ZZ E sa) X (YE G A 9 Q) := hZ
  refine E_new (pc := 0) C0 13 13 (Cn := RX12) (Tn := TX12) [.null, .null, .null, vi 0, .null, .null, .null, .null, .null, .null, vi 0, vi 0, .null] rfl inX12 tyX12 tyX12_ok kz_0 kz_4 kz_5 (fun j hj => match j, hj with | 0, _ => rfl | 1, _ => rfl | 2, _ => rfl | 3, _ => rfl | 4, _ => rfl | 5, _ => rfl | 6, _ => rfl | 7, _ => rfl | 8, _ => rfl | 9, _ => rfl | 10, _ => rfl | 11, _ => rfl | 12, _ => rfl | n + 13, h => absurd h (by omega)) (by decide) dL_law_0 (fun q => ?_)
  refine J_dup (pc := 3) C0 dL_law_3 rfl ?_
  refine E_call (pc := 4) (w := []) ZZ_ok hZ0 C0 [] [.ref q] (mk_X12_init ZZ_ok ZZ_m ZZ_c ZZ_s q) kz_1 ki_X12_init rfl rfl (Nat.le_of_ble_eq_true rfl) ⟨⟨by decide, by decide⟩, by decide, by decide⟩ dL_law_4 (fun w1 hw1 => ?_)
  refine J_astore_n (pc := 7) (L' := [(1, .ref q), (0, .ref sc)]) C0 dL_law_7 rfl (show (1 : Nat) < 9 by decide) rfl ?_
  refine E_new (pc := 8) C0 14 21 (Cn := RX13) (Tn := TX13) [.null, .null, .null, .null, .null, .null, vi 0, vi 0, vi 0, vi 0, vi 0, .null, vi 0, .null, .null, .null, vi 0, vi 0, vi 0, vi 0, vi 0] rfl inX13 tyX13 tyX13_ok kz_2 kz_6 kz_7 (fun j hj => match j, hj with | 0, _ => rfl | 1, _ => rfl | 2, _ => rfl | 3, _ => rfl | 4, _ => rfl | 5, _ => rfl | 6, _ => rfl | 7, _ => rfl | 8, _ => rfl | 9, _ => rfl | 10, _ => rfl | 11, _ => rfl | 12, _ => rfl | 13, _ => rfl | 14, _ => rfl | 15, _ => rfl | 16, _ => rfl | 17, _ => rfl | 18, _ => rfl | 19, _ => rfl | 20, _ => rfl | n + 21, h => absurd h (by omega)) (by decide) dL_law_8 (fun p => ?_)
  refine J_dup (pc := 11) C0 dL_law_11 rfl ?_
  refine E_call (pc := 12) (w := [] ++ w1) ZZ_ok hZ0 C0 [] [.ref p] (mk_X13_init ZZ_ok ZZ_m ZZ_c ZZ_s p) kz_3 ki_X13_init rfl rfl (Nat.le_of_ble_eq_true rfl) ⟨⟨by decide, by decide⟩, by decide, by decide⟩ dL_law_12 (fun w2 hw2 => ?_)
  refine J_astore_n (pc := 15) (L' := [(2, .ref p), (1, .ref q), (0, .ref sc)]) C0 dL_law_15 rfl (show (2 : Nat) < 9 by decide) rfl ?_
  refine J_iconst (pc := 16) C0 dL_law_16 ?_
  refine E_newa (pc := 17) C0 .long (ty := .long) rfl 1 rfl (by decide) 8 rfl (1, .inr (.inl (fun _ => 0))) (fun _ => rfl) kz_a4 (by decide) (by decide) dL_law_17 (fun o => ?_)
  refine J_astore_n (pc := 19) (L' := [(3, .ref o), (2, .ref p), (1, .ref q), (0, .ref sc)]) C0 dL_law_19 rfl (show (3 : Nat) < 9 by decide) rfl ?_
  refine J_iconst (pc := 20) C0 dL_law_20 ?_
  refine E_newa (pc := 21) C0 .double (ty := .double) rfl 1 rfl (by decide) 9 rfl (1, .inr (.inr (.inr (.inl (fun _ => 0))))) (fun _ => rfl) kz_a5 (by decide) (by decide) dL_law_21 (fun d => ?_)
  refine J_astore (pc := 23) (L' := [(4, .ref d), (3, .ref o), (2, .ref p), (1, .ref q), (0, .ref sc)]) C0 dL_law_23 (show (4 : Nat) < 9 by decide) rfl ?_
  refine J_iconst (pc := 25) C0 dL_law_25 ?_
  refine J_istore (pc := 26) (L' := [(5, vi 0), (4, .ref d), (3, .ref o), (2, .ref p), (1, .ref q), (0, .ref sc)]) C0 dL_law_26 (show (5 : Nat) < 9 by decide) rfl ?_
  obtain ⟨o1, o2, o3, o4, o5, o6, o7, o8, o9, o10, v1, v2, v3, v4, v5, v6, v7, v8, v9, v10, h1, h2, h3, h4, h5, h6, h7, h8, h9, h10, rfl⟩ := hw1
  obtain ⟨r1, r2, r3, r4, r5, r6, r7, r8, r9, r10, rfl⟩ := hw2
  obtain ⟨adc, ab, e0, hwc⟩ := cls_wq (G := G) (cy := cy) (E := E) (q := q) h1 h2 h3 h4 h5 h6 h7 h8 h9 h10
  obtain ⟨adm, f0, f11, f12, hwl⟩ := law_wq hwc p o d r1 r2 r3 r4 r5 r6 r7 r8 r9 r10
  refine J_wq (wl := wlL cy adc adm E) (wf := wfL) (σ := (s0 ab, m0, 0, 0)) hwl (wfL_0 ab) ?_
  subst e0; subst f0; subst f11; subst f12
  have hlp := lp_law (X := X) (adc := adc) (adm := adm) ZZ_k ZZ_y ZZ_s ZZ_e ZZ_p ZZ_d hst hZ sx hL (C _ _) 40000000001 513 (s0 ab, m0, 0, 0) 0 405 8243 rng_0 (Nat.le_of_ble_eq_true rfl) (Nat.le_of_ble_eq_true rfl)
  have hJ := hlp () (law_all (by decide) hL xs 513 (s0 ab, m0, 0, 0) 0 0 (inv0 ab) (by decide) (by omega) (by omega) (by decide)) (K adc adm)
  exact fun H locs ls hP hD hS hw hl => hJ H locs ls hP hD hS hw (lv_sub hl [5, 4, 3, 2, 1, 0] rfl)
