abbrev rm_X13_thrown : Room := ⟨0, 0, 0, 0⟩
theorem cm_X13_thrown : cmV yX13_thrown cX13_thrown 1 (some .int) 0 := ⟨kw_0, kw_145, ⟨by decide +kernel, by decide +kernel, by decide +kernel⟩, kw_146, kw_147⟩
def f_X13_thrown (σ : Sm) : Option Int :=
  some (σ 11 0)
theorem ct_X13_thrown {l : Launch} {cy : ClassId} {ad : Nat → Nat} {G : va_G} (σ : Sm) (hw : wfm σ) (o : Int) (h : f_X13_thrown σ = some o) : CtI l yX13_thrown cX13_thrown 1 (some .int) rm_X13_thrown (wlm cy ad) wfm G (tym cy) [.ref (ad 0)] σ σ o := by
  refine ctI_of (by decide) (Nat.le_of_ble_eq_true rfl) hw (σ, o) o h (fun X Y v => EndI X Y cX13_thrown rm_X13_thrown .int (σ, v)) (fun _ _ h => h) (fun X A Q hX C => ?_)
  replace C : Cx X (Ym cy ad G A 1 Q) cX13_thrown RX13 (some .int) rm_X13_thrown (tym cy) := C
  show T X (Ym cy ad G A 1 Q) (fun v => EndI X (Ym cy ad G A 1 Q) cX13_thrown rm_X13_thrown .int (σ, v)) 0 0 0 [(0, .ref (ad 0))] [] σ (f_X13_thrown σ)
  unfold f_X13_thrown
  refine T_aload_n (pc := 0) C dX13_thrown_0 rfl 0 rfl ?_
  refine Tm_get (pc := 1) C 11 ⟨by decide, by decide⟩ kw_144 dX13_thrown_1 (fun r1 => ?_)
  exact T_iret (pc := 4) (σ 11 0) (fun h9 => h9) r1 (nar_I _) (by decide) dX13_thrown_4

abbrev rm_X13_in : Room := ⟨0, 0, 0, 0⟩
theorem cm_X13_in : cmS yX13_in cX13_in 3 (some .boolean) 3 := ⟨kw_1, kw_145, ⟨by decide +kernel, by decide +kernel, by decide +kernel⟩, kw_148⟩
def f_X13_in (x0 : Int) (x1 : Int) (x2 : Int) : Option Int :=
  (if x0 < x1 then some 0 else (if x2 < x0 then some 0 else some 1))
theorem ct_X13_in {l : Launch} {cy : ClassId} {ad : Nat → Nat} {G : va_G} (σ : Sm) (x0 : Int) (x1 : Int) (x2 : Int) (h0 : rng x0) (h1 : rng x1) (h2 : rng x2) (hw : wfm σ) (o : Int) (h : f_X13_in x0 x1 x2 = some o) : CtI l yX13_in cX13_in 3 (some .boolean) rm_X13_in (wlm cy ad) wfm G (tym cy) [vi x0, vi x1, vi x2] σ σ o := by
  refine ctI_of (by decide) (Nat.le_of_ble_eq_true rfl) hw (σ, o) o h (fun X Y v => EndI X Y cX13_in rm_X13_in .boolean (σ, v)) (fun _ _ h => h) (fun X A Q hX C => ?_)
  replace C : Cx X (Ym cy ad G A 3 Q) cX13_in RX13 (some .boolean) rm_X13_in (tym cy) := C
  show T X (Ym cy ad G A 3 Q) (fun v => EndI X (Ym cy ad G A 3 Q) cX13_in rm_X13_in .boolean (σ, v)) 0 0 0 [(0, vi x0), (1, vi x1), (2, vi x2)] [] σ (f_X13_in x0 x1 x2)
  unfold f_X13_in
  refine T_iload_n (pc := 0) C dX13_in_0 rfl 0 rfl ?_
  refine T_iload_n (pc := 1) C dX13_in_1 rfl 1 rfl ?_
  refine T_icmp_lt (pc := 2) C 14 dX13_in_2 rfl h0 h1 (fun c1 => ?_) (fun c1 => ?_)
  · refine T_iconst (pc := 14) C dX13_in_14 ?_
    exact T_iret (pc := 15) 0 (fun h9 => h9) (rngL rfl) (nar_Z (Or.inl rfl)) (by decide) dX13_in_15
  · refine T_iload_n (pc := 5) C dX13_in_5 rfl 0 rfl ?_
    refine T_iload_n (pc := 6) C dX13_in_6 rfl 2 rfl ?_
    refine T_icmp_gt (pc := 7) C 14 dX13_in_7 rfl h0 h2 (fun c2 => ?_) (fun c2 => ?_)
    · refine T_iconst (pc := 14) C dX13_in_14 ?_
      exact T_iret (pc := 15) 0 (fun h9 => h9) (rngL rfl) (nar_Z (Or.inl rfl)) (by decide) dX13_in_15
    · refine T_iconst (pc := 10) C dX13_in_10 ?_
      refine T_goto (pc := 11) C 15 dX13_in_11 rfl ?_
      exact T_iret (pc := 15) 1 (fun h9 => h9) (rngL rfl) (nar_Z (Or.inr rfl)) (by decide) dX13_in_15

abbrev rm_X13_copy : Room := ⟨0, 0, 0, 0⟩
theorem cm_X13_copy : cmS yX13_copy cX13_copy 5 none 4 := ⟨kw_2, kw_145, ⟨by decide +kernel, by decide +kernel, by decide +kernel⟩, kw_149⟩
def f_X13_copy_3 (r0 : Nat) (r2 : Nat) (x1 : Int) (x3 : Int) : Nat → Sm → Int → Option (Sm)
  | 0, _, _ => none
  | n + 1, s0, x4 => (if 340 ≤ x4 then some s0 else if 0 ≤ (x1 + x4) ∧ (x1 + x4) < ((mlen r0 : Nat) : Int) then if 0 ≤ (x3 + x4) ∧ (x3 + x4) < ((mlen r2 : Nat) : Int) then bl (upm s0 r2 (x3 + x4).toNat (s0 r0 (x1 + x4).toNat)) fun s10 => f_X13_copy_3 r0 r2 x1 x3 n s10 (x4 + 1) else none else none)
theorem lp_X13_copy_3 {X : vjX} {A : Nat → Prop} {Q : State → Prop} {cy : ClassId} {ad : Nat → Nat} {G : va_G} (C : Cx X (Ym cy ad G A 5 Q) cX13_copy RX13 none rm_X13_copy (tym cy)) (r0 : Nat) (r2 : Nat) (k0 : isA r0) (k2 : isA r2) (x1 : Int) (x3 : Int) (h1 : rng x1) (h3 : rng x3) : ∀ (n : Nat) (s0 : Sm) (x4 : Int) (h4 : rng x4), T X (Ym cy ad G A 5 Q) (fun (q : Sm) => True → J X (Ym cy ad G A 5 Q) 0 0 29 [] [] q) 0 0 3 [(0, .ref (ad r0)), (1, vi x1), (2, .ref (ad r2)), (3, vi x3), (4, vi x4)] [] s0 (f_X13_copy_3 r0 r2 x1 x3 n s0 x4) := by
  intro n
  induction n with
  | zero => intro s0 x4 h4; exact T_none
  | succ n ih =>
    intro s0 x4 h4
    rw [f_X13_copy_3]
    refine T_iload (pc := 3) C dX13_copy_3 4 rfl ?_
    refine T_sipush (pc := 5) C dX13_copy_5 (by decide) ?_
    refine T_icmp_ge (pc := 8) C 29 dX13_copy_8 rfl h4 (rngL rfl) (fun c6 => ?_) (fun c6 => ?_)
    · refine T_sub (L' := []) [] rfl ?_
      exact T_exit (fun h9 => h9 trivial)
    · refine T_aload_n (pc := 11) C dX13_copy_11 rfl 2 rfl ?_
      refine T_iload_n (pc := 12) C dX13_copy_12 rfl 3 rfl ?_
      refine T_iload (pc := 13) C dX13_copy_13 4 rfl ?_
      refine T_iadd (pc := 15) C dX13_copy_15 ?_
      refine T_aload_n (pc := 16) C dX13_copy_16 rfl 0 rfl ?_
      refine T_iload_n (pc := 17) C dX13_copy_17 rfl 1 rfl ?_
      refine T_iload (pc := 18) C dX13_copy_18 4 rfl ?_
      refine T_iadd (pc := 20) C dX13_copy_20 ?_
      refine T_guard (fun g7 => ?_)
      refine Tm_iald (pc := 21) C r0 (x1 + x4).toNat k0 g7 rfl dX13_copy_21 (fun r8 => ?_)
      refine T_guard (fun g9 => ?_)
      refine Tm_iast (pc := 22) C r2 (x3 + x4).toNat k2 g9 rfl r8 dX13_copy_22 ?_
      refine T_blS (fun s10 => ?_)
      refine T_iinc (pc := 23) (L' := [(4, vi (x4 + 1)), (0, .ref (ad r0)), (1, vi x1), (2, .ref (ad r2)), (3, vi x3)]) C dX13_copy_23 (Nat.le_of_ble_eq_true rfl) 4 rfl rfl ?_
      refine T_goto (pc := 26) C 3 dX13_copy_26 rfl ?_
      refine T_sub (L' := [(0, .ref (ad r0)), (1, vi x1), (2, .ref (ad r2)), (3, vi x3), (4, vi (x4 + 1))]) [1, 2, 3, 4, 0] rfl ?_
      exact ih s10 (x4 + 1) (rng_inc c6 h4 (rngL rfl))
def f_X13_copy (N : Nat) (σ : Sm) (r0 : Nat) (x1 : Int) (r2 : Nat) (x3 : Int) : Option Sm :=
  (f_X13_copy_3 r0 r2 x1 x3 N σ 0).bind fun q11 => some q11
theorem ct_X13_copy {l : Launch} {cy : ClassId} {ad : Nat → Nat} {G : va_G} (N : Nat) (σ : Sm) (r0 : Nat) (x1 : Int) (r2 : Nat) (x3 : Int) (k0 : isA r0) (h1 : rng x1) (k2 : isA r2) (h3 : rng x3) (hw : wfm σ) (o : Sm) (h : f_X13_copy N σ r0 x1 r2 x3 = some o) : CtV l yX13_copy cX13_copy 5 rm_X13_copy (wlm cy ad) wfm G (tym cy) [.ref (ad r0), vi x1, .ref (ad r2), vi x3] σ o := by
  refine ctV_of (by decide) (Nat.le_of_ble_eq_true rfl) hw o o h (fun X Y w => EndV X Y cX13_copy rm_X13_copy w) (fun _ _ h => h) (fun X A Q hX C => ?_)
  replace C : Cx X (Ym cy ad G A 5 Q) cX13_copy RX13 none rm_X13_copy (tym cy) := C
  show T X (Ym cy ad G A 5 Q) (fun w => EndV X (Ym cy ad G A 5 Q) cX13_copy rm_X13_copy w) 0 0 0 [(0, .ref (ad r0)), (1, vi x1), (2, .ref (ad r2)), (3, vi x3)] [] σ (f_X13_copy N σ r0 x1 r2 x3)
  unfold f_X13_copy
  refine T_iconst (pc := 0) C dX13_copy_0 ?_
  refine T_istore (pc := 1) (L' := [(4, vi 0), (0, .ref (ad r0)), (1, vi x1), (2, .ref (ad r2)), (3, vi x3)]) C dX13_copy_1 (Nat.le_of_ble_eq_true rfl) rfl ?_
  refine T_sub (L' := [(0, .ref (ad r0)), (1, vi x1), (2, .ref (ad r2)), (3, vi x3), (4, vi 0)]) [1, 2, 3, 4, 0] rfl ?_
  refine T_loopE (lp_X13_copy_3 C r0 r2 k0 k2 x1 x3 h1 h3 N σ 0 (rngL rfl)) (fun q11 hq11 => ?_)
  exact T_vret (pc := 29) q11 (fun h9 => h9) (by decide) dX13_copy_29

abbrev rm_X13_fail : Room := ⟨0, 0, 0, 0⟩
theorem cm_X13_fail : cmV yX13_fail cX13_fail 2 (some .int) 1 := ⟨kw_3, kw_145, ⟨by decide +kernel, by decide +kernel, by decide +kernel⟩, kw_150, kw_151⟩
def f_X13_fail (σ : Sm) (x1 : Int) : Option (Sm × Int) :=
  bl (upm σ 11 0 x1) fun s1 => some (s1, 0)
theorem ct_X13_fail {l : Launch} {cy : ClassId} {ad : Nat → Nat} {G : va_G} (σ : Sm) (x1 : Int) (h1 : rng x1) (hw : wfm σ) (o : Sm × Int) (h : f_X13_fail σ x1 = some o) : CtI l yX13_fail cX13_fail 2 (some .int) rm_X13_fail (wlm cy ad) wfm G (tym cy) [.ref (ad 0), vi x1] σ o.1 o.2 := by
  refine ctI_of (by decide) (Nat.le_of_ble_eq_true rfl) hw o o h (fun X Y w => EndI X Y cX13_fail rm_X13_fail .int w) (fun _ _ h => h) (fun X A Q hX C => ?_)
  replace C : Cx X (Ym cy ad G A 2 Q) cX13_fail RX13 (some .int) rm_X13_fail (tym cy) := C
  show T X (Ym cy ad G A 2 Q) (fun w => EndI X (Ym cy ad G A 2 Q) cX13_fail rm_X13_fail .int w) 0 0 0 [(0, .ref (ad 0)), (1, vi x1)] [] σ (f_X13_fail σ x1)
  unfold f_X13_fail
  refine T_aload_n (pc := 0) C dX13_fail_0 rfl 0 rfl ?_
  refine T_iload_n (pc := 1) C dX13_fail_1 rfl 1 rfl ?_
  refine Tm_put (pc := 2) C (ty := .int) 11 ⟨by decide, by decide⟩ h1 kw_144 rfl (nar_I _) (fit_I _) dX13_fail_2 ?_
  refine T_blS (fun s1 => ?_)
  refine T_iconst (pc := 5) C dX13_fail_5 ?_
  exact T_iret (pc := 6) (s1, 0) (fun h9 => h9) (rngL rfl) (nar_I _) (by decide) dX13_fail_6

abbrev rm_X13_begin : Room := ⟨1, 0, 0, 24⟩
theorem cm_X13_begin : cmV yX13_begin cX13_begin 1 none 0 := ⟨kw_4, kw_145, ⟨by decide +kernel, by decide +kernel, by decide +kernel⟩, kw_155, kw_156⟩
def f_X13_begin (N : Nat) (σ : Sm) : Option Sm :=
  bl (upm σ 11 0 0) fun s1 => (f_X13_copy N s1 1 0 2 0).bind fun s2 => some s2
theorem ct_X13_begin {l : Launch} {cy : ClassId} {ad : Nat → Nat} {G : va_G} (N : Nat) (σ : Sm) (hw : wfm σ) (o : Sm) (h : f_X13_begin N σ = some o) : CtV l yX13_begin cX13_begin 1 rm_X13_begin (wlm cy ad) wfm G (tym cy) [.ref (ad 0)] σ o := by
  refine ctV_of (by decide) (Nat.le_of_ble_eq_true rfl) hw o o h (fun X Y w => EndV X Y cX13_begin rm_X13_begin w) (fun _ _ h => h) (fun X A Q hX C => ?_)
  replace C : Cx X (Ym cy ad G A 1 Q) cX13_begin RX13 none rm_X13_begin (tym cy) := C
  show T X (Ym cy ad G A 1 Q) (fun w => EndV X (Ym cy ad G A 1 Q) cX13_begin rm_X13_begin w) 0 0 0 [(0, .ref (ad 0))] [] σ (f_X13_begin N σ)
  unfold f_X13_begin
  refine T_aload_n (pc := 0) C dX13_begin_0 rfl 0 rfl ?_
  refine T_iconst (pc := 1) C dX13_begin_1 ?_
  refine Tm_put (pc := 2) C (ty := .int) 11 ⟨by decide, by decide⟩ (rngL rfl) kw_144 rfl (nar_I _) (fit_I _) dX13_begin_2 ?_
  refine T_blS (fun s1 => ?_)
  refine T_aload_n (pc := 5) C dX13_begin_5 rfl 0 rfl ?_
  refine Tm_getA (pc := 6) C 0 1 (by decide) (fun _ => rfl) kw_152 rfl dX13_begin_6 ?_
  refine T_iconst (pc := 9) C dX13_begin_9 ?_
  refine T_aload_n (pc := 10) C dX13_begin_10 rfl 0 rfl ?_
  refine Tm_getA (pc := 11) C 1 2 (by decide) (fun _ => rfl) kw_153 rfl dX13_begin_11 ?_
  refine T_iconst (pc := 14) C dX13_begin_14 ?_
  refine T_callSv (pc := 15) C [.ref (ad 1), vi 0, .ref (ad 2), vi 0] [] (fun o h9 hw => ct_X13_copy N s1 1 0 2 0 ⟨by decide, by decide⟩ (rngL rfl) ⟨by decide, by decide⟩ (rngL rfl) hw o h9) kw_154 cm_X13_copy rfl rfl (Nat.le_of_ble_eq_true rfl) (by decide) (a' := 0) (b' := 0) ⟨rfl, rfl⟩ dX13_begin_15 (fun s2 => ?_)
  exact T_vret (pc := 18) s2 (fun h9 => h9) (by decide) dX13_begin_18

abbrev rm_X13_commit : Room := ⟨1, 0, 0, 24⟩
theorem cm_X13_commit : cmV yX13_commit cX13_commit 3 (some .int) 1 := ⟨kw_5, kw_145, ⟨by decide +kernel, by decide +kernel, by decide +kernel⟩, kw_159, kw_160⟩
def f_X13_commit_11 (N : Nat) (x1 : Int) : Nat → Sm → Int → Option (Sm)
  | 0, _, _ => none
  | n + 1, s0, x2 => (if 8 ≤ x2 then some s0 else if rng (340 * x2) then if rng (340 * (x2 - 1)) then (f_X13_copy N s0 4 (340 * x2) 4 (340 * (x2 - 1))).bind fun s16 => f_X13_commit_11 N x1 n s16 (x2 + 1) else none else none)
theorem lp_X13_commit_11 {X : vjX} {A : Nat → Prop} {Q : State → Prop} {cy : ClassId} {ad : Nat → Nat} {G : va_G} (C : Cx X (Ym cy ad G A 3 Q) cX13_commit RX13 (some .int) rm_X13_commit (tym cy)) (N : Nat) (x1 : Int) (h1 : rng x1) : ∀ (n : Nat) (s0 : Sm) (x2 : Int) (h2 : rng x2), T X (Ym cy ad G A 3 Q) (fun (q : Sm) => True → J X (Ym cy ad G A 3 Q) 0 0 46 [(0, .ref (ad 0)), (1, vi x1)] [] q) 0 0 11 [(0, .ref (ad 0)), (1, vi x1), (2, vi x2)] [] s0 (f_X13_commit_11 N x1 n s0 x2) := by
  intro n
  induction n with
  | zero => intro s0 x2 h2; exact T_none
  | succ n ih =>
    intro s0 x2 h2
    rw [f_X13_commit_11]
    refine T_iload_n (pc := 11) C dX13_commit_11 rfl 2 rfl ?_
    refine T_bipush (pc := 12) C dX13_commit_12 (by decide) ?_
    refine T_icmp_ge (pc := 14) C 46 dX13_commit_14 rfl h2 (rngL rfl) (fun c13 => ?_) (fun c13 => ?_)
    · refine T_sub (L' := [(0, .ref (ad 0)), (1, vi x1)]) [0, 1] rfl ?_
      exact T_exit (fun h9 => h9 trivial)
    · refine T_aload_n (pc := 17) C dX13_commit_17 rfl 0 rfl ?_
      refine Tm_getA (pc := 18) C 3 4 (by decide) (fun _ => rfl) kw_158 rfl dX13_commit_18 ?_
      refine T_sipush (pc := 21) C dX13_commit_21 (by decide) ?_
      refine T_iload_n (pc := 24) C dX13_commit_24 rfl 2 rfl ?_
      refine T_imul (pc := 25) C dX13_commit_25 ?_
      refine T_aload_n (pc := 26) C dX13_commit_26 rfl 0 rfl ?_
      refine Tm_getA (pc := 27) C 3 4 (by decide) (fun _ => rfl) kw_158 rfl dX13_commit_27 ?_
      refine T_sipush (pc := 30) C dX13_commit_30 (by decide) ?_
      refine T_iload_n (pc := 33) C dX13_commit_33 rfl 2 rfl ?_
      refine T_iconst (pc := 34) C dX13_commit_34 ?_
      refine T_isub (pc := 35) C dX13_commit_35 ?_
      refine T_imul (pc := 36) C dX13_commit_36 ?_
      refine T_guard (fun g14 => ?_)
      refine T_guard (fun g15 => ?_)
      refine T_callSv (pc := 37) C [.ref (ad 4), vi (340 * x2), .ref (ad 4), vi (340 * (x2 - 1))] [] (fun o h9 hw => ct_X13_copy N s0 4 (340 * x2) 4 (340 * (x2 - 1)) ⟨by decide, by decide⟩ g14 ⟨by decide, by decide⟩ g15 hw o h9) kw_154 cm_X13_copy rfl rfl (Nat.le_of_ble_eq_true rfl) (by decide) (a' := 0) (b' := 0) ⟨rfl, rfl⟩ dX13_commit_37 (fun s16 => ?_)
      refine T_iinc (pc := 40) (L' := [(2, vi (x2 + 1)), (0, .ref (ad 0)), (1, vi x1)]) C dX13_commit_40 (Nat.le_of_ble_eq_true rfl) 2 rfl rfl ?_
      refine T_goto (pc := 43) C 11 dX13_commit_43 rfl ?_
      refine T_sub (L' := [(0, .ref (ad 0)), (1, vi x1), (2, vi (x2 + 1))]) [1, 2, 0] rfl ?_
      exact ih s16 (x2 + 1) (rng_inc c13 h2 (rngL rfl))
def f_X13_commit (N : Nat) (σ : Sm) (x1 : Int) : Option (Sm × Int) :=
  (if (σ 12 0) = 8 then (f_X13_commit_11 N x1 N σ 1).bind fun q17 => if rng ((q17 12 0) - 1) then bl (upm q17 12 0 ((q17 12 0) - 1)) fun s20 => if rng (340 * (s20 12 0)) then (f_X13_copy N s20 2 0 4 (340 * (s20 12 0))).bind fun s23 => if rng ((s23 12 0) + 1) then bl (upm s23 12 0 ((s23 12 0) + 1)) fun s26 => some (s26, x1) else none else none else none else if rng (340 * (σ 12 0)) then (f_X13_copy N σ 2 0 4 (340 * (σ 12 0))).bind fun s5 => if rng ((s5 12 0) + 1) then bl (upm s5 12 0 ((s5 12 0) + 1)) fun s8 => some (s8, x1) else none else none)
theorem ct_X13_commit {l : Launch} {cy : ClassId} {ad : Nat → Nat} {G : va_G} (N : Nat) (σ : Sm) (x1 : Int) (h1 : rng x1) (hw : wfm σ) (o : Sm × Int) (h : f_X13_commit N σ x1 = some o) : CtI l yX13_commit cX13_commit 3 (some .int) rm_X13_commit (wlm cy ad) wfm G (tym cy) [.ref (ad 0), vi x1] σ o.1 o.2 := by
  refine ctI_of (by decide) (Nat.le_of_ble_eq_true rfl) hw o o h (fun X Y w => EndI X Y cX13_commit rm_X13_commit .int w) (fun _ _ h => h) (fun X A Q hX C => ?_)
  replace C : Cx X (Ym cy ad G A 3 Q) cX13_commit RX13 (some .int) rm_X13_commit (tym cy) := C
  show T X (Ym cy ad G A 3 Q) (fun w => EndI X (Ym cy ad G A 3 Q) cX13_commit rm_X13_commit .int w) 0 0 0 [(0, .ref (ad 0)), (1, vi x1)] [] σ (f_X13_commit N σ x1)
  unfold f_X13_commit
  refine T_aload_n (pc := 0) C dX13_commit_0 rfl 0 rfl ?_
  refine Tm_get (pc := 1) C 12 ⟨by decide, by decide⟩ kw_157 dX13_commit_1 (fun r1 => ?_)
  refine T_bipush (pc := 4) C dX13_commit_4 (by decide) ?_
  refine T_icmp_ne (pc := 6) C 56 dX13_commit_6 rfl r1 (rngL rfl) (fun c2 => ?_) (fun c2 => ?_)
  · refine T_aload_n (pc := 56) C dX13_commit_56 rfl 0 rfl ?_
    refine Tm_getA (pc := 57) C 1 2 (by decide) (fun _ => rfl) kw_153 rfl dX13_commit_57 ?_
    refine T_iconst (pc := 60) C dX13_commit_60 ?_
    refine T_aload_n (pc := 61) C dX13_commit_61 rfl 0 rfl ?_
    refine Tm_getA (pc := 62) C 3 4 (by decide) (fun _ => rfl) kw_158 rfl dX13_commit_62 ?_
    refine T_sipush (pc := 65) C dX13_commit_65 (by decide) ?_
    refine T_aload_n (pc := 68) C dX13_commit_68 rfl 0 rfl ?_
    refine Tm_get (pc := 69) C 12 ⟨by decide, by decide⟩ kw_157 dX13_commit_69 (fun r3 => ?_)
    refine T_imul (pc := 72) C dX13_commit_72 ?_
    refine T_guard (fun g4 => ?_)
    refine T_callSv (pc := 73) C [.ref (ad 2), vi 0, .ref (ad 4), vi (340 * (σ 12 0))] [] (fun o h9 hw => ct_X13_copy N σ 2 0 4 (340 * (σ 12 0)) ⟨by decide, by decide⟩ (rngL rfl) ⟨by decide, by decide⟩ g4 hw o h9) kw_154 cm_X13_copy rfl rfl (Nat.le_of_ble_eq_true rfl) (by decide) (a' := 0) (b' := 0) ⟨rfl, rfl⟩ dX13_commit_73 (fun s5 => ?_)
    refine T_aload_n (pc := 76) C dX13_commit_76 rfl 0 rfl ?_
    refine T_dup (pc := 77) C dX13_commit_77 rfl ?_
    refine Tm_get (pc := 78) C 12 ⟨by decide, by decide⟩ kw_157 dX13_commit_78 (fun r6 => ?_)
    refine T_iconst (pc := 81) C dX13_commit_81 ?_
    refine T_iadd (pc := 82) C dX13_commit_82 ?_
    refine T_guard (fun g7 => ?_)
    refine Tm_put (pc := 83) C (ty := .int) 12 ⟨by decide, by decide⟩ g7 kw_157 rfl (nar_I _) (fit_I _) dX13_commit_83 ?_
    refine T_blS (fun s8 => ?_)
    refine T_iload_n (pc := 86) C dX13_commit_86 rfl 1 rfl ?_
    exact T_iret (pc := 87) (s8, x1) (fun h9 => h9) h1 (nar_I _) (by decide) dX13_commit_87
  · refine T_iconst (pc := 9) C dX13_commit_9 ?_
    refine T_istore_n (pc := 10) (L' := [(2, vi 1), (0, .ref (ad 0)), (1, vi x1)]) C dX13_commit_10 rfl (Nat.le_of_ble_eq_true rfl) rfl ?_
    refine T_sub (L' := [(0, .ref (ad 0)), (1, vi x1), (2, vi 1)]) [1, 2, 0] rfl ?_
    refine T_loopE (lp_X13_commit_11 C N x1 h1 N σ 1 (rngL rfl)) (fun q17 hq17 => ?_)
    refine T_aload_n (pc := 46) C dX13_commit_46 rfl 0 rfl ?_
    refine T_dup (pc := 47) C dX13_commit_47 rfl ?_
    refine Tm_get (pc := 48) C 12 ⟨by decide, by decide⟩ kw_157 dX13_commit_48 (fun r18 => ?_)
    refine T_iconst (pc := 51) C dX13_commit_51 ?_
    refine T_isub (pc := 52) C dX13_commit_52 ?_
    refine T_guard (fun g19 => ?_)
    refine Tm_put (pc := 53) C (ty := .int) 12 ⟨by decide, by decide⟩ g19 kw_157 rfl (nar_I _) (fit_I _) dX13_commit_53 ?_
    refine T_blS (fun s20 => ?_)
    refine T_aload_n (pc := 56) C dX13_commit_56 rfl 0 rfl ?_
    refine Tm_getA (pc := 57) C 1 2 (by decide) (fun _ => rfl) kw_153 rfl dX13_commit_57 ?_
    refine T_iconst (pc := 60) C dX13_commit_60 ?_
    refine T_aload_n (pc := 61) C dX13_commit_61 rfl 0 rfl ?_
    refine Tm_getA (pc := 62) C 3 4 (by decide) (fun _ => rfl) kw_158 rfl dX13_commit_62 ?_
    refine T_sipush (pc := 65) C dX13_commit_65 (by decide) ?_
    refine T_aload_n (pc := 68) C dX13_commit_68 rfl 0 rfl ?_
    refine Tm_get (pc := 69) C 12 ⟨by decide, by decide⟩ kw_157 dX13_commit_69 (fun r21 => ?_)
    refine T_imul (pc := 72) C dX13_commit_72 ?_
    refine T_guard (fun g22 => ?_)
    refine T_callSv (pc := 73) C [.ref (ad 2), vi 0, .ref (ad 4), vi (340 * (s20 12 0))] [] (fun o h9 hw => ct_X13_copy N s20 2 0 4 (340 * (s20 12 0)) ⟨by decide, by decide⟩ (rngL rfl) ⟨by decide, by decide⟩ g22 hw o h9) kw_154 cm_X13_copy rfl rfl (Nat.le_of_ble_eq_true rfl) (by decide) (a' := 0) (b' := 0) ⟨rfl, rfl⟩ dX13_commit_73 (fun s23 => ?_)
    refine T_aload_n (pc := 76) C dX13_commit_76 rfl 0 rfl ?_
    refine T_dup (pc := 77) C dX13_commit_77 rfl ?_
    refine Tm_get (pc := 78) C 12 ⟨by decide, by decide⟩ kw_157 dX13_commit_78 (fun r24 => ?_)
    refine T_iconst (pc := 81) C dX13_commit_81 ?_
    refine T_iadd (pc := 82) C dX13_commit_82 ?_
    refine T_guard (fun g25 => ?_)
    refine Tm_put (pc := 83) C (ty := .int) 12 ⟨by decide, by decide⟩ g25 kw_157 rfl (nar_I _) (fit_I _) dX13_commit_83 ?_
    refine T_blS (fun s26 => ?_)
    refine T_iload_n (pc := 86) C dX13_commit_86 rfl 1 rfl ?_
    exact T_iret (pc := 87) (s26, x1) (fun h9 => h9) h1 (nar_I _) (by decide) dX13_commit_87

abbrev rm_X13_isStop : Room := ⟨1, 0, 0, 22⟩
theorem cm_X13_isStop : cmV yX13_isStop cX13_isStop 2 (some .boolean) 1 := ⟨kw_6, kw_145, ⟨by decide +kernel, by decide +kernel, by decide +kernel⟩, kw_162, kw_163⟩
def f_X13_isStop (σ : Sm) (x1 : Int) : Option Int :=
  if rng ((σ 1 0) - 1) then (f_X13_in x1 0 ((σ 1 0) - 1)).bind fun v3 => some v3 else none
theorem ct_X13_isStop {l : Launch} {cy : ClassId} {ad : Nat → Nat} {G : va_G} (σ : Sm) (x1 : Int) (h1 : rng x1) (hw : wfm σ) (o : Int) (h : f_X13_isStop σ x1 = some o) : CtI l yX13_isStop cX13_isStop 2 (some .boolean) rm_X13_isStop (wlm cy ad) wfm G (tym cy) [.ref (ad 0), vi x1] σ σ o := by
  refine ctI_of (by decide) (Nat.le_of_ble_eq_true rfl) hw (σ, o) o h (fun X Y v => EndI X Y cX13_isStop rm_X13_isStop .boolean (σ, v)) (fun _ _ h => h) (fun X A Q hX C => ?_)
  replace C : Cx X (Ym cy ad G A 2 Q) cX13_isStop RX13 (some .boolean) rm_X13_isStop (tym cy) := C
  show T X (Ym cy ad G A 2 Q) (fun v => EndI X (Ym cy ad G A 2 Q) cX13_isStop rm_X13_isStop .boolean (σ, v)) 0 0 0 [(0, .ref (ad 0)), (1, vi x1)] [] σ (f_X13_isStop σ x1)
  unfold f_X13_isStop
  refine T_iload_n (pc := 0) C dX13_isStop_0 rfl 1 rfl ?_
  refine T_iconst (pc := 1) C dX13_isStop_1 ?_
  refine T_aload_n (pc := 2) C dX13_isStop_2 rfl 0 rfl ?_
  refine Tm_getA (pc := 3) C 0 1 (by decide) (fun _ => rfl) kw_152 rfl dX13_isStop_3 ?_
  refine T_iconst (pc := 6) C dX13_isStop_6 ?_
  refine Tm_iald (pc := 7) C 1 0 ⟨by decide, by decide⟩ ⟨by decide, by decide⟩ rfl dX13_isStop_7 (fun r1 => ?_)
  refine T_iconst (pc := 8) C dX13_isStop_8 ?_
  refine T_isub (pc := 9) C dX13_isStop_9 ?_
  refine T_guard (fun g2 => ?_)
  refine T_callSip (pc := 10) C [vi x1, vi 0, vi ((σ 1 0) - 1)] [] (fun o h9 hw => ct_X13_in σ x1 0 ((σ 1 0) - 1) h1 (rngL rfl) g2 hw o h9) kw_161 cm_X13_in rfl rfl (Nat.le_of_ble_eq_true rfl) (by decide) (a' := 0) (b' := 0) ⟨rfl, rfl⟩ dX13_isStop_10 (fun v3 hv3 => ?_)
  exact T_iret (pc := 13) v3 (fun h9 => h9) hv3.1 (nar_Z (bit_of_nar hv3)) (by decide) dX13_isStop_13

abbrev rm_X13_areStops : Room := ⟨2, 0, 0, 43⟩
theorem cm_X13_areStops : cmV yX13_areStops cX13_areStops 3 (some .boolean) 2 := ⟨kw_7, kw_145, ⟨by decide +kernel, by decide +kernel, by decide +kernel⟩, kw_165, kw_166⟩
def f_X13_areStops (σ : Sm) (x1 : Int) (x2 : Int) : Option Int :=
  (f_X13_isStop σ x1).bind fun v1 => (if v1 = 0 then some 0 else (f_X13_isStop σ x2).bind fun v3 => (if v3 = 0 then some 0 else some 1))
theorem ct_X13_areStops {l : Launch} {cy : ClassId} {ad : Nat → Nat} {G : va_G} (σ : Sm) (x1 : Int) (x2 : Int) (h1 : rng x1) (h2 : rng x2) (hw : wfm σ) (o : Int) (h : f_X13_areStops σ x1 x2 = some o) : CtI l yX13_areStops cX13_areStops 3 (some .boolean) rm_X13_areStops (wlm cy ad) wfm G (tym cy) [.ref (ad 0), vi x1, vi x2] σ σ o := by
  refine ctI_of (by decide) (Nat.le_of_ble_eq_true rfl) hw (σ, o) o h (fun X Y v => EndI X Y cX13_areStops rm_X13_areStops .boolean (σ, v)) (fun _ _ h => h) (fun X A Q hX C => ?_)
  replace C : Cx X (Ym cy ad G A 3 Q) cX13_areStops RX13 (some .boolean) rm_X13_areStops (tym cy) := C
  show T X (Ym cy ad G A 3 Q) (fun v => EndI X (Ym cy ad G A 3 Q) cX13_areStops rm_X13_areStops .boolean (σ, v)) 0 0 0 [(0, .ref (ad 0)), (1, vi x1), (2, vi x2)] [] σ (f_X13_areStops σ x1 x2)
  unfold f_X13_areStops
  refine T_aload_n (pc := 0) C dX13_areStops_0 rfl 0 rfl ?_
  refine T_iload_n (pc := 1) C dX13_areStops_1 rfl 1 rfl ?_
  refine T_callVip (pc := 2) C [vi x1] [] (fun o h9 hw => ct_X13_isStop σ x1 h1 hw o h9) kw_164 cm_X13_isStop rcm rfl rfl (Nat.le_of_ble_eq_true rfl) (by decide) (a' := 0) (b' := 0) ⟨rfl, rfl⟩ dX13_areStops_2 (fun v1 hv1 => ?_)
  refine T_if_eq (pc := 5) C 20 dX13_areStops_5 rfl hv1.1 (fun c2 => ?_) (fun c2 => ?_)
  · refine T_iconst (pc := 20) C dX13_areStops_20 ?_
    exact T_iret (pc := 21) 0 (fun h9 => h9) (rngL rfl) (nar_Z (Or.inl rfl)) (by decide) dX13_areStops_21
  · refine T_aload_n (pc := 8) C dX13_areStops_8 rfl 0 rfl ?_
    refine T_iload_n (pc := 9) C dX13_areStops_9 rfl 2 rfl ?_
    refine T_callVip (pc := 10) C [vi x2] [] (fun o h9 hw => ct_X13_isStop σ x2 h2 hw o h9) kw_164 cm_X13_isStop rcm rfl rfl (Nat.le_of_ble_eq_true rfl) (by decide) (a' := 0) (b' := 0) ⟨rfl, rfl⟩ dX13_areStops_10 (fun v3 hv3 => ?_)
    refine T_if_eq (pc := 13) C 20 dX13_areStops_13 rfl hv3.1 (fun c4 => ?_) (fun c4 => ?_)
    · refine T_iconst (pc := 20) C dX13_areStops_20 ?_
      exact T_iret (pc := 21) 0 (fun h9 => h9) (rngL rfl) (nar_Z (Or.inl rfl)) (by decide) dX13_areStops_21
    · refine T_iconst (pc := 16) C dX13_areStops_16 ?_
      refine T_goto (pc := 17) C 21 dX13_areStops_17 rfl ?_
      exact T_iret (pc := 21) 1 (fun h9 => h9) (rngL rfl) (nar_Z (Or.inr rfl)) (by decide) dX13_areStops_21

abbrev rm_X13_isOpen : Room := ⟨0, 0, 0, 0⟩
theorem cm_X13_isOpen : cmV yX13_isOpen cX13_isOpen 2 (some .boolean) 1 := ⟨kw_8, kw_145, ⟨by decide +kernel, by decide +kernel, by decide +kernel⟩, kw_167, kw_168⟩
def f_X13_isOpen (σ : Sm) (x1 : Int) : Option Int :=
  if 0 ≤ ((12 + (2 * x1)) + 1) ∧ ((12 + (2 * x1)) + 1) < 340 then (if (σ 1 ((12 + (2 * x1)) + 1).toNat) = 0 then some 1 else some 0) else none
theorem ct_X13_isOpen {l : Launch} {cy : ClassId} {ad : Nat → Nat} {G : va_G} (σ : Sm) (x1 : Int) (h1 : rng x1) (hw : wfm σ) (o : Int) (h : f_X13_isOpen σ x1 = some o) : CtI l yX13_isOpen cX13_isOpen 2 (some .boolean) rm_X13_isOpen (wlm cy ad) wfm G (tym cy) [.ref (ad 0), vi x1] σ σ o := by
  refine ctI_of (by decide) (Nat.le_of_ble_eq_true rfl) hw (σ, o) o h (fun X Y v => EndI X Y cX13_isOpen rm_X13_isOpen .boolean (σ, v)) (fun _ _ h => h) (fun X A Q hX C => ?_)
  replace C : Cx X (Ym cy ad G A 2 Q) cX13_isOpen RX13 (some .boolean) rm_X13_isOpen (tym cy) := C
  show T X (Ym cy ad G A 2 Q) (fun v => EndI X (Ym cy ad G A 2 Q) cX13_isOpen rm_X13_isOpen .boolean (σ, v)) 0 0 0 [(0, .ref (ad 0)), (1, vi x1)] [] σ (f_X13_isOpen σ x1)
  unfold f_X13_isOpen
  refine T_aload_n (pc := 0) C dX13_isOpen_0 rfl 0 rfl ?_
  refine Tm_getA (pc := 1) C 0 1 (by decide) (fun _ => rfl) kw_152 rfl dX13_isOpen_1 ?_
  refine T_bipush (pc := 4) C dX13_isOpen_4 (by decide) ?_
  refine T_iconst (pc := 6) C dX13_isOpen_6 ?_
  refine T_iload_n (pc := 7) C dX13_isOpen_7 rfl 1 rfl ?_
  refine T_imul (pc := 8) C dX13_isOpen_8 ?_
  refine T_iadd (pc := 9) C dX13_isOpen_9 ?_
  refine T_iconst (pc := 10) C dX13_isOpen_10 ?_
  refine T_iadd (pc := 11) C dX13_isOpen_11 ?_
  refine T_guard (fun g1 => ?_)
  refine Tm_iald (pc := 12) C 1 ((12 + (2 * x1)) + 1).toNat ⟨by decide, by decide⟩ g1 rfl dX13_isOpen_12 (fun r2 => ?_)
  refine T_if_ne (pc := 13) C 20 dX13_isOpen_13 rfl r2 (fun c3 => ?_) (fun c3 => ?_)
  · refine T_iconst (pc := 20) C dX13_isOpen_20 ?_
    exact T_iret (pc := 21) 0 (fun h9 => h9) (rngL rfl) (nar_Z (Or.inl rfl)) (by decide) dX13_isOpen_21
  · refine T_iconst (pc := 16) C dX13_isOpen_16 ?_
    refine T_goto (pc := 17) C 21 dX13_isOpen_17 rfl ?_
    exact T_iret (pc := 21) 1 (fun h9 => h9) (rngL rfl) (nar_Z (Or.inr rfl)) (by decide) dX13_isOpen_21

abbrev rm_X13_transfer : Room := ⟨0, 0, 0, 0⟩
theorem cm_X13_transfer : cmV yX13_transfer cX13_transfer 2 (some .int) 1 := ⟨kw_9, kw_145, ⟨by decide +kernel, by decide +kernel, by decide +kernel⟩, kw_169, kw_170⟩
def f_X13_transfer (σ : Sm) (x1 : Int) : Option Int :=
  if 0 ≤ ((12 + (2 * x1)) + 0) ∧ ((12 + (2 * x1)) + 0) < 340 then some (σ 1 ((12 + (2 * x1)) + 0).toNat) else none
theorem ct_X13_transfer {l : Launch} {cy : ClassId} {ad : Nat → Nat} {G : va_G} (σ : Sm) (x1 : Int) (h1 : rng x1) (hw : wfm σ) (o : Int) (h : f_X13_transfer σ x1 = some o) : CtI l yX13_transfer cX13_transfer 2 (some .int) rm_X13_transfer (wlm cy ad) wfm G (tym cy) [.ref (ad 0), vi x1] σ σ o := by
  refine ctI_of (by decide) (Nat.le_of_ble_eq_true rfl) hw (σ, o) o h (fun X Y v => EndI X Y cX13_transfer rm_X13_transfer .int (σ, v)) (fun _ _ h => h) (fun X A Q hX C => ?_)
  replace C : Cx X (Ym cy ad G A 2 Q) cX13_transfer RX13 (some .int) rm_X13_transfer (tym cy) := C
  show T X (Ym cy ad G A 2 Q) (fun v => EndI X (Ym cy ad G A 2 Q) cX13_transfer rm_X13_transfer .int (σ, v)) 0 0 0 [(0, .ref (ad 0)), (1, vi x1)] [] σ (f_X13_transfer σ x1)
  unfold f_X13_transfer
  refine T_aload_n (pc := 0) C dX13_transfer_0 rfl 0 rfl ?_
  refine Tm_getA (pc := 1) C 0 1 (by decide) (fun _ => rfl) kw_152 rfl dX13_transfer_1 ?_
  refine T_bipush (pc := 4) C dX13_transfer_4 (by decide) ?_
  refine T_iconst (pc := 6) C dX13_transfer_6 ?_
  refine T_iload_n (pc := 7) C dX13_transfer_7 rfl 1 rfl ?_
  refine T_imul (pc := 8) C dX13_transfer_8 ?_
  refine T_iadd (pc := 9) C dX13_transfer_9 ?_
  refine T_iconst (pc := 10) C dX13_transfer_10 ?_
  refine T_iadd (pc := 11) C dX13_transfer_11 ?_
  refine T_guard (fun g1 => ?_)
  refine Tm_iald (pc := 12) C 1 ((12 + (2 * x1)) + 0).toNat ⟨by decide, by decide⟩ g1 rfl dX13_transfer_12 (fun r2 => ?_)
  exact T_iret (pc := 13) (σ 1 ((12 + (2 * x1)) + 0).toNat) (fun h9 => h9) r2 (nar_I _) (by decide) dX13_transfer_13

abbrev rm_X13_walk : Room := ⟨0, 0, 0, 0⟩
theorem cm_X13_walk : cmV yX13_walk cX13_walk 3 (some .int) 2 := ⟨kw_10, kw_145, ⟨by decide +kernel, by decide +kernel, by decide +kernel⟩, kw_171, kw_172⟩
def f_X13_walk (σ : Sm) (x1 : Int) (x2 : Int) : Option Int :=
  if 0 ≤ ((32 + (10 * x1)) + x2) ∧ ((32 + (10 * x1)) + x2) < 340 then some (σ 1 ((32 + (10 * x1)) + x2).toNat) else none
theorem ct_X13_walk {l : Launch} {cy : ClassId} {ad : Nat → Nat} {G : va_G} (σ : Sm) (x1 : Int) (x2 : Int) (h1 : rng x1) (h2 : rng x2) (hw : wfm σ) (o : Int) (h : f_X13_walk σ x1 x2 = some o) : CtI l yX13_walk cX13_walk 3 (some .int) rm_X13_walk (wlm cy ad) wfm G (tym cy) [.ref (ad 0), vi x1, vi x2] σ σ o := by
  refine ctI_of (by decide) (Nat.le_of_ble_eq_true rfl) hw (σ, o) o h (fun X Y v => EndI X Y cX13_walk rm_X13_walk .int (σ, v)) (fun _ _ h => h) (fun X A Q hX C => ?_)
  replace C : Cx X (Ym cy ad G A 3 Q) cX13_walk RX13 (some .int) rm_X13_walk (tym cy) := C
  show T X (Ym cy ad G A 3 Q) (fun v => EndI X (Ym cy ad G A 3 Q) cX13_walk rm_X13_walk .int (σ, v)) 0 0 0 [(0, .ref (ad 0)), (1, vi x1), (2, vi x2)] [] σ (f_X13_walk σ x1 x2)
  unfold f_X13_walk
  refine T_aload_n (pc := 0) C dX13_walk_0 rfl 0 rfl ?_
  refine Tm_getA (pc := 1) C 0 1 (by decide) (fun _ => rfl) kw_152 rfl dX13_walk_1 ?_
  refine T_bipush (pc := 4) C dX13_walk_4 (by decide) ?_
  refine T_bipush (pc := 6) C dX13_walk_6 (by decide) ?_
  refine T_iload_n (pc := 8) C dX13_walk_8 rfl 1 rfl ?_
  refine T_imul (pc := 9) C dX13_walk_9 ?_
  refine T_iadd (pc := 10) C dX13_walk_10 ?_
  refine T_iload_n (pc := 11) C dX13_walk_11 rfl 2 rfl ?_
  refine T_iadd (pc := 12) C dX13_walk_12 ?_
  refine T_guard (fun g1 => ?_)
  refine Tm_iald (pc := 13) C 1 ((32 + (10 * x1)) + x2).toNat ⟨by decide, by decide⟩ g1 rfl dX13_walk_13 (fun r2 => ?_)
  exact T_iret (pc := 14) (σ 1 ((32 + (10 * x1)) + x2).toNat) (fun h9 => h9) r2 (nar_I _) (by decide) dX13_walk_14

abbrev rm_X13_cannotAddStop : Room := ⟨1, 0, 0, 22⟩
theorem cm_X13_cannotAddStop : cmV yX13_cannotAddStop cX13_cannotAddStop 2 (some .int) 1 := ⟨kw_11, kw_145, ⟨by decide +kernel, by decide +kernel, by decide +kernel⟩, kw_173, kw_174⟩
def f_X13_cannotAddStop (σ : Sm) (x1 : Int) : Option Int :=
  (f_X13_in x1 0 9).bind fun v1 => (if v1 = 0 then some 1 else (if (σ 1 0) = 10 then some 2 else some 0))
theorem ct_X13_cannotAddStop {l : Launch} {cy : ClassId} {ad : Nat → Nat} {G : va_G} (σ : Sm) (x1 : Int) (h1 : rng x1) (hw : wfm σ) (o : Int) (h : f_X13_cannotAddStop σ x1 = some o) : CtI l yX13_cannotAddStop cX13_cannotAddStop 2 (some .int) rm_X13_cannotAddStop (wlm cy ad) wfm G (tym cy) [.ref (ad 0), vi x1] σ σ o := by
  refine ctI_of (by decide) (Nat.le_of_ble_eq_true rfl) hw (σ, o) o h (fun X Y v => EndI X Y cX13_cannotAddStop rm_X13_cannotAddStop .int (σ, v)) (fun _ _ h => h) (fun X A Q hX C => ?_)
  replace C : Cx X (Ym cy ad G A 2 Q) cX13_cannotAddStop RX13 (some .int) rm_X13_cannotAddStop (tym cy) := C
  show T X (Ym cy ad G A 2 Q) (fun v => EndI X (Ym cy ad G A 2 Q) cX13_cannotAddStop rm_X13_cannotAddStop .int (σ, v)) 0 0 0 [(0, .ref (ad 0)), (1, vi x1)] [] σ (f_X13_cannotAddStop σ x1)
  unfold f_X13_cannotAddStop
  refine T_iload_n (pc := 0) C dX13_cannotAddStop_0 rfl 1 rfl ?_
  refine T_iconst (pc := 1) C dX13_cannotAddStop_1 ?_
  refine T_bipush (pc := 2) C dX13_cannotAddStop_2 (by decide) ?_
  refine T_callSip (pc := 4) C [vi x1, vi 0, vi 9] [] (fun o h9 hw => ct_X13_in σ x1 0 9 h1 (rngL rfl) (rngL rfl) hw o h9) kw_161 cm_X13_in rfl rfl (Nat.le_of_ble_eq_true rfl) (by decide) (a' := 0) (b' := 0) ⟨rfl, rfl⟩ dX13_cannotAddStop_4 (fun v1 hv1 => ?_)
  refine T_if_ne (pc := 7) C 14 dX13_cannotAddStop_7 rfl hv1.1 (fun c2 => ?_) (fun c2 => ?_)
  · refine T_aload_n (pc := 14) C dX13_cannotAddStop_14 rfl 0 rfl ?_
    refine Tm_getA (pc := 15) C 0 1 (by decide) (fun _ => rfl) kw_152 rfl dX13_cannotAddStop_15 ?_
    refine T_iconst (pc := 18) C dX13_cannotAddStop_18 ?_
    refine Tm_iald (pc := 19) C 1 0 ⟨by decide, by decide⟩ ⟨by decide, by decide⟩ rfl dX13_cannotAddStop_19 (fun r3 => ?_)
    refine T_bipush (pc := 20) C dX13_cannotAddStop_20 (by decide) ?_
    refine T_icmp_ne (pc := 22) C 29 dX13_cannotAddStop_22 rfl r3 (rngL rfl) (fun c4 => ?_) (fun c4 => ?_)
    · refine T_iconst (pc := 29) C dX13_cannotAddStop_29 ?_
      exact T_iret (pc := 30) 0 (fun h9 => h9) (rngL rfl) (nar_I _) (by decide) dX13_cannotAddStop_30
    · refine T_iconst (pc := 25) C dX13_cannotAddStop_25 ?_
      refine T_goto (pc := 26) C 30 dX13_cannotAddStop_26 rfl ?_
      exact T_iret (pc := 30) 2 (fun h9 => h9) (rngL rfl) (nar_I _) (by decide) dX13_cannotAddStop_30
  · refine T_iconst (pc := 10) C dX13_cannotAddStop_10 ?_
    refine T_goto (pc := 11) C 30 dX13_cannotAddStop_11 rfl ?_
    exact T_iret (pc := 30) 1 (fun h9 => h9) (rngL rfl) (nar_I _) (by decide) dX13_cannotAddStop_30

abbrev rm_X13_addsStop : Room := ⟨0, 0, 0, 0⟩
theorem cm_X13_addsStop : cmV yX13_addsStop cX13_addsStop 2 (some .int) 1 := ⟨kw_12, kw_145, ⟨by decide +kernel, by decide +kernel, by decide +kernel⟩, kw_175, kw_176⟩
def f_X13_addsStop (σ : Sm) (x1 : Int) : Option (Sm × Int) :=
  if 0 ≤ ((12 + (2 * (σ 1 0))) + 0) ∧ ((12 + (2 * (σ 1 0))) + 0) < 340 then bl (upm σ 1 ((12 + (2 * (σ 1 0))) + 0).toNat x1) fun s3 => if rng ((s3 1 0) + 1) then bl (upm s3 1 0 ((s3 1 0) + 1)) fun s6 => if rng ((s6 1 0) - 1) then some (s6, ((s6 1 0) - 1)) else none else none else none
theorem ct_X13_addsStop {l : Launch} {cy : ClassId} {ad : Nat → Nat} {G : va_G} (σ : Sm) (x1 : Int) (h1 : rng x1) (hw : wfm σ) (o : Sm × Int) (h : f_X13_addsStop σ x1 = some o) : CtI l yX13_addsStop cX13_addsStop 2 (some .int) rm_X13_addsStop (wlm cy ad) wfm G (tym cy) [.ref (ad 0), vi x1] σ o.1 o.2 := by
  refine ctI_of (by decide) (Nat.le_of_ble_eq_true rfl) hw o o h (fun X Y w => EndI X Y cX13_addsStop rm_X13_addsStop .int w) (fun _ _ h => h) (fun X A Q hX C => ?_)
  replace C : Cx X (Ym cy ad G A 2 Q) cX13_addsStop RX13 (some .int) rm_X13_addsStop (tym cy) := C
  show T X (Ym cy ad G A 2 Q) (fun w => EndI X (Ym cy ad G A 2 Q) cX13_addsStop rm_X13_addsStop .int w) 0 0 0 [(0, .ref (ad 0)), (1, vi x1)] [] σ (f_X13_addsStop σ x1)
  unfold f_X13_addsStop
  refine T_aload_n (pc := 0) C dX13_addsStop_0 rfl 0 rfl ?_
  refine Tm_getA (pc := 1) C 0 1 (by decide) (fun _ => rfl) kw_152 rfl dX13_addsStop_1 ?_
  refine T_bipush (pc := 4) C dX13_addsStop_4 (by decide) ?_
  refine T_iconst (pc := 6) C dX13_addsStop_6 ?_
  refine T_aload_n (pc := 7) C dX13_addsStop_7 rfl 0 rfl ?_
  refine Tm_getA (pc := 8) C 0 1 (by decide) (fun _ => rfl) kw_152 rfl dX13_addsStop_8 ?_
  refine T_iconst (pc := 11) C dX13_addsStop_11 ?_
  refine Tm_iald (pc := 12) C 1 0 ⟨by decide, by decide⟩ ⟨by decide, by decide⟩ rfl dX13_addsStop_12 (fun r1 => ?_)
  refine T_imul (pc := 13) C dX13_addsStop_13 ?_
  refine T_iadd (pc := 14) C dX13_addsStop_14 ?_
  refine T_iconst (pc := 15) C dX13_addsStop_15 ?_
  refine T_iadd (pc := 16) C dX13_addsStop_16 ?_
  refine T_iload_n (pc := 17) C dX13_addsStop_17 rfl 1 rfl ?_
  refine T_guard (fun g2 => ?_)
  refine Tm_iast (pc := 18) C 1 ((12 + (2 * (σ 1 0))) + 0).toNat ⟨by decide, by decide⟩ g2 rfl h1 dX13_addsStop_18 ?_
  refine T_blS (fun s3 => ?_)
  refine T_aload_n (pc := 19) C dX13_addsStop_19 rfl 0 rfl ?_
  refine Tm_getA (pc := 20) C 0 1 (by decide) (fun _ => rfl) kw_152 rfl dX13_addsStop_20 ?_
  refine T_iconst (pc := 23) C dX13_addsStop_23 ?_
  refine T_dup2 (pc := 24) C dX13_addsStop_24 rfl rfl ?_
  refine Tm_iald (pc := 25) C 1 0 ⟨by decide, by decide⟩ ⟨by decide, by decide⟩ rfl dX13_addsStop_25 (fun r4 => ?_)
  refine T_iconst (pc := 26) C dX13_addsStop_26 ?_
  refine T_iadd (pc := 27) C dX13_addsStop_27 ?_
  refine T_guard (fun g5 => ?_)
  refine Tm_iast (pc := 28) C 1 0 ⟨by decide, by decide⟩ ⟨by decide, by decide⟩ rfl g5 dX13_addsStop_28 ?_
  refine T_blS (fun s6 => ?_)
  refine T_aload_n (pc := 29) C dX13_addsStop_29 rfl 0 rfl ?_
  refine Tm_getA (pc := 30) C 0 1 (by decide) (fun _ => rfl) kw_152 rfl dX13_addsStop_30 ?_
  refine T_iconst (pc := 33) C dX13_addsStop_33 ?_
  refine Tm_iald (pc := 34) C 1 0 ⟨by decide, by decide⟩ ⟨by decide, by decide⟩ rfl dX13_addsStop_34 (fun r7 => ?_)
  refine T_iconst (pc := 35) C dX13_addsStop_35 ?_
  refine T_isub (pc := 36) C dX13_addsStop_36 ?_
  refine T_guard (fun g8 => ?_)
  exact T_iret (pc := 37) (s6, ((s6 1 0) - 1)) (fun h9 => h9) g8 (nar_I _) (by decide) dX13_addsStop_37

abbrev rm_X13_addStop : Room := ⟨2, 0, 0, 46⟩
theorem cm_X13_addStop : cmV yX13_addStop cX13_addStop 3 (some .int) 1 := ⟨kw_13, kw_145, ⟨by decide +kernel, by decide +kernel, by decide +kernel⟩, kw_182, kw_183⟩
def f_X13_addStop (N : Nat) (σ : Sm) (x1 : Int) : Option (Sm × Int) :=
  (f_X13_begin N σ).bind fun s1 => (f_X13_cannotAddStop s1 x1).bind fun v2 => (if v2 ≤ 0 then (f_X13_addsStop s1 x1).bind fun v4 => (f_X13_commit N v4.1 v4.2).bind fun v5 => some (v5.1, v5.2) else (f_X13_fail s1 v2).bind fun v6 => some (v6.1, v6.2))
theorem ct_X13_addStop {l : Launch} {cy : ClassId} {ad : Nat → Nat} {G : va_G} (N : Nat) (σ : Sm) (x1 : Int) (h1 : rng x1) (hw : wfm σ) (o : Sm × Int) (h : f_X13_addStop N σ x1 = some o) : CtI l yX13_addStop cX13_addStop 3 (some .int) rm_X13_addStop (wlm cy ad) wfm G (tym cy) [.ref (ad 0), vi x1] σ o.1 o.2 := by
  refine ctI_of (by decide) (Nat.le_of_ble_eq_true rfl) hw o o h (fun X Y w => EndI X Y cX13_addStop rm_X13_addStop .int w) (fun _ _ h => h) (fun X A Q hX C => ?_)
  replace C : Cx X (Ym cy ad G A 3 Q) cX13_addStop RX13 (some .int) rm_X13_addStop (tym cy) := C
  show T X (Ym cy ad G A 3 Q) (fun w => EndI X (Ym cy ad G A 3 Q) cX13_addStop rm_X13_addStop .int w) 0 0 0 [(0, .ref (ad 0)), (1, vi x1)] [] σ (f_X13_addStop N σ x1)
  unfold f_X13_addStop
  refine T_aload_n (pc := 0) C dX13_addStop_0 rfl 0 rfl ?_
  refine T_callVv (pc := 1) C [] [] (fun o h9 hw => ct_X13_begin N σ hw o h9) kw_177 cm_X13_begin rcm rfl rfl (Nat.le_of_ble_eq_true rfl) (by decide) (a' := 0) (b' := 0) ⟨rfl, rfl⟩ dX13_addStop_1 (fun s1 => ?_)
  refine T_aload_n (pc := 4) C dX13_addStop_4 rfl 0 rfl ?_
  refine T_iload_n (pc := 5) C dX13_addStop_5 rfl 1 rfl ?_
  refine T_callVip (pc := 6) C [vi x1] [] (fun o h9 hw => ct_X13_cannotAddStop s1 x1 h1 hw o h9) kw_178 cm_X13_cannotAddStop rcm rfl rfl (Nat.le_of_ble_eq_true rfl) (by decide) (a' := 0) (b' := 0) ⟨rfl, rfl⟩ dX13_addStop_6 (fun v2 hv2 => ?_)
  refine T_istore_n (pc := 9) (L' := [(2, vi v2), (0, .ref (ad 0)), (1, vi x1)]) C dX13_addStop_9 rfl (Nat.le_of_ble_eq_true rfl) rfl ?_
  refine T_iload_n (pc := 10) C dX13_addStop_10 rfl 0 rfl ?_
  refine T_if_le (pc := 11) C 22 dX13_addStop_11 rfl hv2.1 (fun c3 => ?_) (fun c3 => ?_)
  · refine T_aload_n (pc := 22) C dX13_addStop_22 rfl 1 rfl ?_
    refine T_aload_n (pc := 23) C dX13_addStop_23 rfl 1 rfl ?_
    refine T_iload_n (pc := 24) C dX13_addStop_24 rfl 2 rfl ?_
    refine T_callVi (pc := 25) C [vi x1] [.ref (ad 0)] (fun o h9 hw => ct_X13_addsStop s1 x1 h1 hw o h9) kw_179 cm_X13_addsStop rcm rfl rfl (Nat.le_of_ble_eq_true rfl) (by decide) (a' := 0) (b' := 0) ⟨rfl, rfl⟩ dX13_addStop_25 (fun v4 hv4 => ?_)
    refine T_callVi (pc := 28) C [vi v4.2] [] (fun o h9 hw => ct_X13_commit N v4.1 v4.2 hv4.1 hw o h9) kw_180 cm_X13_commit rcm rfl rfl (Nat.le_of_ble_eq_true rfl) (by decide) (a' := 0) (b' := 0) ⟨rfl, rfl⟩ dX13_addStop_28 (fun v5 hv5 => ?_)
    exact T_iret (pc := 31) (v5.1, v5.2) (fun h9 => h9) hv5.1 (nar_I _) (by decide) dX13_addStop_31
  · refine T_aload_n (pc := 14) C dX13_addStop_14 rfl 1 rfl ?_
    refine T_iload_n (pc := 15) C dX13_addStop_15 rfl 0 rfl ?_
    refine T_callVi (pc := 16) C [vi v2] [] (fun o h9 hw => ct_X13_fail s1 v2 hv2.1 hw o h9) kw_181 cm_X13_fail rcm rfl rfl (Nat.le_of_ble_eq_true rfl) (by decide) (a' := 0) (b' := 0) ⟨rfl, rfl⟩ dX13_addStop_16 (fun v6 hv6 => ?_)
    refine T_goto (pc := 19) C 31 dX13_addStop_19 rfl ?_
    exact T_iret (pc := 31) (v6.1, v6.2) (fun h9 => h9) hv6.1 (nar_I _) (by decide) dX13_addStop_31

abbrev rm_X13_cannotWalk : Room := ⟨3, 0, 0, 65⟩
theorem cm_X13_cannotWalk : cmV yX13_cannotWalk cX13_cannotWalk 4 (some .int) 3 := ⟨kw_14, kw_145, ⟨by decide +kernel, by decide +kernel, by decide +kernel⟩, kw_186, kw_187⟩
def f_X13_cannotWalk (σ : Sm) (x1 : Int) (x2 : Int) (x3 : Int) : Option Int :=
  (f_X13_areStops σ x1 x2).bind fun v1 => (if v1 = 0 then some 1 else (if x1 = x2 then some 2 else (f_X13_in x3 1 30).bind fun v4 => (if v4 = 0 then some 2 else (f_X13_walk σ x1 x2).bind fun v6 => (if 0 < v6 then some 3 else (if (σ 1 1) = 15 then some 3 else some 0)))))
theorem ct_X13_cannotWalk {l : Launch} {cy : ClassId} {ad : Nat → Nat} {G : va_G} (σ : Sm) (x1 : Int) (x2 : Int) (x3 : Int) (h1 : rng x1) (h2 : rng x2) (h3 : rng x3) (hw : wfm σ) (o : Int) (h : f_X13_cannotWalk σ x1 x2 x3 = some o) : CtI l yX13_cannotWalk cX13_cannotWalk 4 (some .int) rm_X13_cannotWalk (wlm cy ad) wfm G (tym cy) [.ref (ad 0), vi x1, vi x2, vi x3] σ σ o := by
  refine ctI_of (by decide) (Nat.le_of_ble_eq_true rfl) hw (σ, o) o h (fun X Y v => EndI X Y cX13_cannotWalk rm_X13_cannotWalk .int (σ, v)) (fun _ _ h => h) (fun X A Q hX C => ?_)
  replace C : Cx X (Ym cy ad G A 4 Q) cX13_cannotWalk RX13 (some .int) rm_X13_cannotWalk (tym cy) := C
  show T X (Ym cy ad G A 4 Q) (fun v => EndI X (Ym cy ad G A 4 Q) cX13_cannotWalk rm_X13_cannotWalk .int (σ, v)) 0 0 0 [(0, .ref (ad 0)), (1, vi x1), (2, vi x2), (3, vi x3)] [] σ (f_X13_cannotWalk σ x1 x2 x3)
  unfold f_X13_cannotWalk
  refine T_aload_n (pc := 0) C dX13_cannotWalk_0 rfl 0 rfl ?_
  refine T_iload_n (pc := 1) C dX13_cannotWalk_1 rfl 1 rfl ?_
  refine T_iload_n (pc := 2) C dX13_cannotWalk_2 rfl 2 rfl ?_
  refine T_callVip (pc := 3) C [vi x1, vi x2] [] (fun o h9 hw => ct_X13_areStops σ x1 x2 h1 h2 hw o h9) kw_184 cm_X13_areStops rcm rfl rfl (Nat.le_of_ble_eq_true rfl) (by decide) (a' := 0) (b' := 0) ⟨rfl, rfl⟩ dX13_cannotWalk_3 (fun v1 hv1 => ?_)
  refine T_if_ne (pc := 6) C 11 dX13_cannotWalk_6 rfl hv1.1 (fun c2 => ?_) (fun c2 => ?_)
  · refine T_iload_n (pc := 11) C dX13_cannotWalk_11 rfl 1 rfl ?_
    refine T_iload_n (pc := 12) C dX13_cannotWalk_12 rfl 2 rfl ?_
    refine T_icmp_eq (pc := 13) C 26 dX13_cannotWalk_13 rfl h1 h2 (fun c3 => ?_) (fun c3 => ?_)
    · refine T_iconst (pc := 26) C dX13_cannotWalk_26 ?_
      exact T_iret (pc := 27) 2 (fun h9 => h9) (rngL rfl) (nar_I _) (by decide) dX13_cannotWalk_27
    · refine T_iload_n (pc := 16) C dX13_cannotWalk_16 rfl 3 rfl ?_
      refine T_iconst (pc := 17) C dX13_cannotWalk_17 ?_
      refine T_bipush (pc := 18) C dX13_cannotWalk_18 (by decide) ?_
      refine T_callSip (pc := 20) C [vi x3, vi 1, vi 30] [] (fun o h9 hw => ct_X13_in σ x3 1 30 h3 (rngL rfl) (rngL rfl) hw o h9) kw_161 cm_X13_in rfl rfl (Nat.le_of_ble_eq_true rfl) (by decide) (a' := 0) (b' := 0) ⟨rfl, rfl⟩ dX13_cannotWalk_20 (fun v4 hv4 => ?_)
      refine T_if_ne (pc := 23) C 28 dX13_cannotWalk_23 rfl hv4.1 (fun c5 => ?_) (fun c5 => ?_)
      · refine T_aload_n (pc := 28) C dX13_cannotWalk_28 rfl 0 rfl ?_
        refine T_iload_n (pc := 29) C dX13_cannotWalk_29 rfl 1 rfl ?_
        refine T_iload_n (pc := 30) C dX13_cannotWalk_30 rfl 2 rfl ?_
        refine T_callVip (pc := 31) C [vi x1, vi x2] [] (fun o h9 hw => ct_X13_walk σ x1 x2 h1 h2 hw o h9) kw_185 cm_X13_walk rcm rfl rfl (Nat.le_of_ble_eq_true rfl) (by decide) (a' := 0) (b' := 0) ⟨rfl, rfl⟩ dX13_cannotWalk_31 (fun v6 hv6 => ?_)
        refine T_if_gt (pc := 34) C 48 dX13_cannotWalk_34 rfl hv6.1 (fun c7 => ?_) (fun c7 => ?_)
        · refine T_iconst (pc := 48) C dX13_cannotWalk_48 ?_
          refine T_goto (pc := 49) C 53 dX13_cannotWalk_49 rfl ?_
          exact T_iret (pc := 53) 3 (fun h9 => h9) (rngL rfl) (nar_I _) (by decide) dX13_cannotWalk_53
        · refine T_aload_n (pc := 37) C dX13_cannotWalk_37 rfl 0 rfl ?_
          refine Tm_getA (pc := 38) C 0 1 (by decide) (fun _ => rfl) kw_152 rfl dX13_cannotWalk_38 ?_
          refine T_iconst (pc := 41) C dX13_cannotWalk_41 ?_
          refine Tm_iald (pc := 42) C 1 1 ⟨by decide, by decide⟩ ⟨by decide, by decide⟩ rfl dX13_cannotWalk_42 (fun r8 => ?_)
          refine T_bipush (pc := 43) C dX13_cannotWalk_43 (by decide) ?_
          refine T_icmp_ne (pc := 45) C 52 dX13_cannotWalk_45 rfl r8 (rngL rfl) (fun c9 => ?_) (fun c9 => ?_)
          · refine T_iconst (pc := 52) C dX13_cannotWalk_52 ?_
            exact T_iret (pc := 53) 0 (fun h9 => h9) (rngL rfl) (nar_I _) (by decide) dX13_cannotWalk_53
          · refine T_iconst (pc := 48) C dX13_cannotWalk_48 ?_
            refine T_goto (pc := 49) C 53 dX13_cannotWalk_49 rfl ?_
            exact T_iret (pc := 53) 3 (fun h9 => h9) (rngL rfl) (nar_I _) (by decide) dX13_cannotWalk_53
      · refine T_iconst (pc := 26) C dX13_cannotWalk_26 ?_
        exact T_iret (pc := 27) 2 (fun h9 => h9) (rngL rfl) (nar_I _) (by decide) dX13_cannotWalk_27
  · refine T_iconst (pc := 9) C dX13_cannotWalk_9 ?_
    exact T_iret (pc := 10) 1 (fun h9 => h9) (rngL rfl) (nar_I _) (by decide) dX13_cannotWalk_10

abbrev rm_X13_setWalk : Room := ⟨0, 0, 0, 0⟩
theorem cm_X13_setWalk : cmV yX13_setWalk cX13_setWalk 4 none 3 := ⟨kw_15, kw_145, ⟨by decide +kernel, by decide +kernel, by decide +kernel⟩, kw_188, kw_189⟩
def f_X13_setWalk (σ : Sm) (x1 : Int) (x2 : Int) (x3 : Int) : Option Sm :=
  if 0 ≤ ((32 + (10 * x1)) + x2) ∧ ((32 + (10 * x1)) + x2) < 340 then bl (upm σ 1 ((32 + (10 * x1)) + x2).toNat x3) fun s2 => if 0 ≤ ((32 + (10 * x2)) + x1) ∧ ((32 + (10 * x2)) + x1) < 340 then bl (upm s2 1 ((32 + (10 * x2)) + x1).toNat x3) fun s4 => some s4 else none else none
theorem ct_X13_setWalk {l : Launch} {cy : ClassId} {ad : Nat → Nat} {G : va_G} (σ : Sm) (x1 : Int) (x2 : Int) (x3 : Int) (h1 : rng x1) (h2 : rng x2) (h3 : rng x3) (hw : wfm σ) (o : Sm) (h : f_X13_setWalk σ x1 x2 x3 = some o) : CtV l yX13_setWalk cX13_setWalk 4 rm_X13_setWalk (wlm cy ad) wfm G (tym cy) [.ref (ad 0), vi x1, vi x2, vi x3] σ o := by
  refine ctV_of (by decide) (Nat.le_of_ble_eq_true rfl) hw o o h (fun X Y w => EndV X Y cX13_setWalk rm_X13_setWalk w) (fun _ _ h => h) (fun X A Q hX C => ?_)
  replace C : Cx X (Ym cy ad G A 4 Q) cX13_setWalk RX13 none rm_X13_setWalk (tym cy) := C
  show T X (Ym cy ad G A 4 Q) (fun w => EndV X (Ym cy ad G A 4 Q) cX13_setWalk rm_X13_setWalk w) 0 0 0 [(0, .ref (ad 0)), (1, vi x1), (2, vi x2), (3, vi x3)] [] σ (f_X13_setWalk σ x1 x2 x3)
  unfold f_X13_setWalk
  refine T_aload_n (pc := 0) C dX13_setWalk_0 rfl 0 rfl ?_
  refine Tm_getA (pc := 1) C 0 1 (by decide) (fun _ => rfl) kw_152 rfl dX13_setWalk_1 ?_
  refine T_bipush (pc := 4) C dX13_setWalk_4 (by decide) ?_
  refine T_bipush (pc := 6) C dX13_setWalk_6 (by decide) ?_
  refine T_iload_n (pc := 8) C dX13_setWalk_8 rfl 1 rfl ?_
  refine T_imul (pc := 9) C dX13_setWalk_9 ?_
  refine T_iadd (pc := 10) C dX13_setWalk_10 ?_
  refine T_iload_n (pc := 11) C dX13_setWalk_11 rfl 2 rfl ?_
  refine T_iadd (pc := 12) C dX13_setWalk_12 ?_
  refine T_iload_n (pc := 13) C dX13_setWalk_13 rfl 3 rfl ?_
  refine T_guard (fun g1 => ?_)
  refine Tm_iast (pc := 14) C 1 ((32 + (10 * x1)) + x2).toNat ⟨by decide, by decide⟩ g1 rfl h3 dX13_setWalk_14 ?_
  refine T_blS (fun s2 => ?_)
  refine T_aload_n (pc := 15) C dX13_setWalk_15 rfl 0 rfl ?_
  refine Tm_getA (pc := 16) C 0 1 (by decide) (fun _ => rfl) kw_152 rfl dX13_setWalk_16 ?_
  refine T_bipush (pc := 19) C dX13_setWalk_19 (by decide) ?_
  refine T_bipush (pc := 21) C dX13_setWalk_21 (by decide) ?_
  refine T_iload_n (pc := 23) C dX13_setWalk_23 rfl 2 rfl ?_
  refine T_imul (pc := 24) C dX13_setWalk_24 ?_
  refine T_iadd (pc := 25) C dX13_setWalk_25 ?_
  refine T_iload_n (pc := 26) C dX13_setWalk_26 rfl 1 rfl ?_
  refine T_iadd (pc := 27) C dX13_setWalk_27 ?_
  refine T_iload_n (pc := 28) C dX13_setWalk_28 rfl 3 rfl ?_
  refine T_guard (fun g3 => ?_)
  refine Tm_iast (pc := 29) C 1 ((32 + (10 * x2)) + x1).toNat ⟨by decide, by decide⟩ g3 rfl h3 dX13_setWalk_29 ?_
  refine T_blS (fun s4 => ?_)
  exact T_vret (pc := 30) s4 (fun h9 => h9) (by decide) dX13_setWalk_30

abbrev rm_X13_addsWalk : Room := ⟨1, 0, 0, 23⟩
theorem cm_X13_addsWalk : cmV yX13_addsWalk cX13_addsWalk 4 (some .int) 3 := ⟨kw_16, kw_145, ⟨by decide +kernel, by decide +kernel, by decide +kernel⟩, kw_191, kw_192⟩
def f_X13_addsWalk (σ : Sm) (x1 : Int) (x2 : Int) (x3 : Int) : Option (Sm × Int) :=
  (f_X13_setWalk σ x1 x2 x3).bind fun s1 => if rng ((s1 1 1) + 1) then bl (upm s1 1 1 ((s1 1 1) + 1)) fun s4 => some (s4, (s4 1 1)) else none
theorem ct_X13_addsWalk {l : Launch} {cy : ClassId} {ad : Nat → Nat} {G : va_G} (σ : Sm) (x1 : Int) (x2 : Int) (x3 : Int) (h1 : rng x1) (h2 : rng x2) (h3 : rng x3) (hw : wfm σ) (o : Sm × Int) (h : f_X13_addsWalk σ x1 x2 x3 = some o) : CtI l yX13_addsWalk cX13_addsWalk 4 (some .int) rm_X13_addsWalk (wlm cy ad) wfm G (tym cy) [.ref (ad 0), vi x1, vi x2, vi x3] σ o.1 o.2 := by
  refine ctI_of (by decide) (Nat.le_of_ble_eq_true rfl) hw o o h (fun X Y w => EndI X Y cX13_addsWalk rm_X13_addsWalk .int w) (fun _ _ h => h) (fun X A Q hX C => ?_)
  replace C : Cx X (Ym cy ad G A 4 Q) cX13_addsWalk RX13 (some .int) rm_X13_addsWalk (tym cy) := C
  show T X (Ym cy ad G A 4 Q) (fun w => EndI X (Ym cy ad G A 4 Q) cX13_addsWalk rm_X13_addsWalk .int w) 0 0 0 [(0, .ref (ad 0)), (1, vi x1), (2, vi x2), (3, vi x3)] [] σ (f_X13_addsWalk σ x1 x2 x3)
  unfold f_X13_addsWalk
  refine T_aload_n (pc := 0) C dX13_addsWalk_0 rfl 0 rfl ?_
  refine T_iload_n (pc := 1) C dX13_addsWalk_1 rfl 1 rfl ?_
  refine T_iload_n (pc := 2) C dX13_addsWalk_2 rfl 2 rfl ?_
  refine T_iload_n (pc := 3) C dX13_addsWalk_3 rfl 3 rfl ?_
  refine T_callVv (pc := 4) C [vi x1, vi x2, vi x3] [] (fun o h9 hw => ct_X13_setWalk σ x1 x2 x3 h1 h2 h3 hw o h9) kw_190 cm_X13_setWalk rcm rfl rfl (Nat.le_of_ble_eq_true rfl) (by decide) (a' := 0) (b' := 0) ⟨rfl, rfl⟩ dX13_addsWalk_4 (fun s1 => ?_)
  refine T_aload_n (pc := 7) C dX13_addsWalk_7 rfl 0 rfl ?_
  refine Tm_getA (pc := 8) C 0 1 (by decide) (fun _ => rfl) kw_152 rfl dX13_addsWalk_8 ?_
  refine T_iconst (pc := 11) C dX13_addsWalk_11 ?_
  refine T_dup2 (pc := 12) C dX13_addsWalk_12 rfl rfl ?_
  refine Tm_iald (pc := 13) C 1 1 ⟨by decide, by decide⟩ ⟨by decide, by decide⟩ rfl dX13_addsWalk_13 (fun r2 => ?_)
  refine T_iconst (pc := 14) C dX13_addsWalk_14 ?_
  refine T_iadd (pc := 15) C dX13_addsWalk_15 ?_
  refine T_guard (fun g3 => ?_)
  refine Tm_iast (pc := 16) C 1 1 ⟨by decide, by decide⟩ ⟨by decide, by decide⟩ rfl g3 dX13_addsWalk_16 ?_
  refine T_blS (fun s4 => ?_)
  refine T_aload_n (pc := 17) C dX13_addsWalk_17 rfl 0 rfl ?_
  refine Tm_getA (pc := 18) C 0 1 (by decide) (fun _ => rfl) kw_152 rfl dX13_addsWalk_18 ?_
  refine T_iconst (pc := 21) C dX13_addsWalk_21 ?_
  refine Tm_iald (pc := 22) C 1 1 ⟨by decide, by decide⟩ ⟨by decide, by decide⟩ rfl dX13_addsWalk_22 (fun r5 => ?_)
  exact T_iret (pc := 23) (s4, (s4 1 1)) (fun h9 => h9) r5 (nar_I _) (by decide) dX13_addsWalk_23

abbrev rm_X13_addWalk : Room := ⟨4, 0, 0, 88⟩
theorem cm_X13_addWalk : cmV yX13_addWalk cX13_addWalk 5 (some .int) 3 := ⟨kw_17, kw_145, ⟨by decide +kernel, by decide +kernel, by decide +kernel⟩, kw_195, kw_196⟩
def f_X13_addWalk (N : Nat) (σ : Sm) (x1 : Int) (x2 : Int) (x3 : Int) : Option (Sm × Int) :=
  (f_X13_begin N σ).bind fun s1 => (f_X13_cannotWalk s1 x1 x2 x3).bind fun v2 => (if v2 ≤ 0 then (f_X13_addsWalk s1 x1 x2 x3).bind fun v4 => (f_X13_commit N v4.1 v4.2).bind fun v5 => some (v5.1, v5.2) else (f_X13_fail s1 v2).bind fun v6 => some (v6.1, v6.2))
theorem ct_X13_addWalk {l : Launch} {cy : ClassId} {ad : Nat → Nat} {G : va_G} (N : Nat) (σ : Sm) (x1 : Int) (x2 : Int) (x3 : Int) (h1 : rng x1) (h2 : rng x2) (h3 : rng x3) (hw : wfm σ) (o : Sm × Int) (h : f_X13_addWalk N σ x1 x2 x3 = some o) : CtI l yX13_addWalk cX13_addWalk 5 (some .int) rm_X13_addWalk (wlm cy ad) wfm G (tym cy) [.ref (ad 0), vi x1, vi x2, vi x3] σ o.1 o.2 := by
  refine ctI_of (by decide) (Nat.le_of_ble_eq_true rfl) hw o o h (fun X Y w => EndI X Y cX13_addWalk rm_X13_addWalk .int w) (fun _ _ h => h) (fun X A Q hX C => ?_)
  replace C : Cx X (Ym cy ad G A 5 Q) cX13_addWalk RX13 (some .int) rm_X13_addWalk (tym cy) := C
  show T X (Ym cy ad G A 5 Q) (fun w => EndI X (Ym cy ad G A 5 Q) cX13_addWalk rm_X13_addWalk .int w) 0 0 0 [(0, .ref (ad 0)), (1, vi x1), (2, vi x2), (3, vi x3)] [] σ (f_X13_addWalk N σ x1 x2 x3)
  unfold f_X13_addWalk
  refine T_aload_n (pc := 0) C dX13_addWalk_0 rfl 0 rfl ?_
  refine T_callVv (pc := 1) C [] [] (fun o h9 hw => ct_X13_begin N σ hw o h9) kw_177 cm_X13_begin rcm rfl rfl (Nat.le_of_ble_eq_true rfl) (by decide) (a' := 0) (b' := 0) ⟨rfl, rfl⟩ dX13_addWalk_1 (fun s1 => ?_)
  refine T_aload_n (pc := 4) C dX13_addWalk_4 rfl 0 rfl ?_
  refine T_iload_n (pc := 5) C dX13_addWalk_5 rfl 1 rfl ?_
  refine T_iload_n (pc := 6) C dX13_addWalk_6 rfl 2 rfl ?_
  refine T_iload_n (pc := 7) C dX13_addWalk_7 rfl 3 rfl ?_
  refine T_callVip (pc := 8) C [vi x1, vi x2, vi x3] [] (fun o h9 hw => ct_X13_cannotWalk s1 x1 x2 x3 h1 h2 h3 hw o h9) kw_193 cm_X13_cannotWalk rcm rfl rfl (Nat.le_of_ble_eq_true rfl) (by decide) (a' := 0) (b' := 0) ⟨rfl, rfl⟩ dX13_addWalk_8 (fun v2 hv2 => ?_)
  refine T_istore (pc := 11) (L' := [(4, vi v2), (0, .ref (ad 0)), (1, vi x1), (2, vi x2), (3, vi x3)]) C dX13_addWalk_11 (Nat.le_of_ble_eq_true rfl) rfl ?_
  refine T_iload (pc := 13) C dX13_addWalk_13 0 rfl ?_
  refine T_if_le (pc := 15) C 27 dX13_addWalk_15 rfl hv2.1 (fun c3 => ?_) (fun c3 => ?_)
  · refine T_aload_n (pc := 27) C dX13_addWalk_27 rfl 1 rfl ?_
    refine T_aload_n (pc := 28) C dX13_addWalk_28 rfl 1 rfl ?_
    refine T_iload_n (pc := 29) C dX13_addWalk_29 rfl 2 rfl ?_
    refine T_iload_n (pc := 30) C dX13_addWalk_30 rfl 3 rfl ?_
    refine T_iload_n (pc := 31) C dX13_addWalk_31 rfl 4 rfl ?_
    refine T_callVi (pc := 32) C [vi x1, vi x2, vi x3] [.ref (ad 0)] (fun o h9 hw => ct_X13_addsWalk s1 x1 x2 x3 h1 h2 h3 hw o h9) kw_194 cm_X13_addsWalk rcm rfl rfl (Nat.le_of_ble_eq_true rfl) (by decide) (a' := 0) (b' := 0) ⟨rfl, rfl⟩ dX13_addWalk_32 (fun v4 hv4 => ?_)
    refine T_callVi (pc := 35) C [vi v4.2] [] (fun o h9 hw => ct_X13_commit N v4.1 v4.2 hv4.1 hw o h9) kw_180 cm_X13_commit rcm rfl rfl (Nat.le_of_ble_eq_true rfl) (by decide) (a' := 0) (b' := 0) ⟨rfl, rfl⟩ dX13_addWalk_35 (fun v5 hv5 => ?_)
    exact T_iret (pc := 38) (v5.1, v5.2) (fun h9 => h9) hv5.1 (nar_I _) (by decide) dX13_addWalk_38
  · refine T_aload_n (pc := 18) C dX13_addWalk_18 rfl 1 rfl ?_
    refine T_iload (pc := 19) C dX13_addWalk_19 0 rfl ?_
    refine T_callVi (pc := 21) C [vi v2] [] (fun o h9 hw => ct_X13_fail s1 v2 hv2.1 hw o h9) kw_181 cm_X13_fail rcm rfl rfl (Nat.le_of_ble_eq_true rfl) (by decide) (a' := 0) (b' := 0) ⟨rfl, rfl⟩ dX13_addWalk_21 (fun v6 hv6 => ?_)
    refine T_goto (pc := 24) C 38 dX13_addWalk_24 rfl ?_
    exact T_iret (pc := 38) (v6.1, v6.2) (fun h9 => h9) hv6.1 (nar_I _) (by decide) dX13_addWalk_38

abbrev rm_X13_noWalk : Room := ⟨3, 0, 0, 65⟩
theorem cm_X13_noWalk : cmV yX13_noWalk cX13_noWalk 3 (some .int) 2 := ⟨kw_18, kw_145, ⟨by decide +kernel, by decide +kernel, by decide +kernel⟩, kw_197, kw_198⟩
def f_X13_noWalk (σ : Sm) (x1 : Int) (x2 : Int) : Option Int :=
  (f_X13_areStops σ x1 x2).bind fun v1 => (if v1 = 0 then some 1 else (f_X13_walk σ x1 x2).bind fun v3 => (if v3 = 0 then some 2 else some 0))
theorem ct_X13_noWalk {l : Launch} {cy : ClassId} {ad : Nat → Nat} {G : va_G} (σ : Sm) (x1 : Int) (x2 : Int) (h1 : rng x1) (h2 : rng x2) (hw : wfm σ) (o : Int) (h : f_X13_noWalk σ x1 x2 = some o) : CtI l yX13_noWalk cX13_noWalk 3 (some .int) rm_X13_noWalk (wlm cy ad) wfm G (tym cy) [.ref (ad 0), vi x1, vi x2] σ σ o := by
  refine ctI_of (by decide) (Nat.le_of_ble_eq_true rfl) hw (σ, o) o h (fun X Y v => EndI X Y cX13_noWalk rm_X13_noWalk .int (σ, v)) (fun _ _ h => h) (fun X A Q hX C => ?_)
  replace C : Cx X (Ym cy ad G A 3 Q) cX13_noWalk RX13 (some .int) rm_X13_noWalk (tym cy) := C
  show T X (Ym cy ad G A 3 Q) (fun v => EndI X (Ym cy ad G A 3 Q) cX13_noWalk rm_X13_noWalk .int (σ, v)) 0 0 0 [(0, .ref (ad 0)), (1, vi x1), (2, vi x2)] [] σ (f_X13_noWalk σ x1 x2)
  unfold f_X13_noWalk
  refine T_aload_n (pc := 0) C dX13_noWalk_0 rfl 0 rfl ?_
  refine T_iload_n (pc := 1) C dX13_noWalk_1 rfl 1 rfl ?_
  refine T_iload_n (pc := 2) C dX13_noWalk_2 rfl 2 rfl ?_
  refine T_callVip (pc := 3) C [vi x1, vi x2] [] (fun o h9 hw => ct_X13_areStops σ x1 x2 h1 h2 hw o h9) kw_184 cm_X13_areStops rcm rfl rfl (Nat.le_of_ble_eq_true rfl) (by decide) (a' := 0) (b' := 0) ⟨rfl, rfl⟩ dX13_noWalk_3 (fun v1 hv1 => ?_)
  refine T_if_ne (pc := 6) C 13 dX13_noWalk_6 rfl hv1.1 (fun c2 => ?_) (fun c2 => ?_)
  · refine T_aload_n (pc := 13) C dX13_noWalk_13 rfl 0 rfl ?_
    refine T_iload_n (pc := 14) C dX13_noWalk_14 rfl 1 rfl ?_
    refine T_iload_n (pc := 15) C dX13_noWalk_15 rfl 2 rfl ?_
    refine T_callVip (pc := 16) C [vi x1, vi x2] [] (fun o h9 hw => ct_X13_walk σ x1 x2 h1 h2 hw o h9) kw_185 cm_X13_walk rcm rfl rfl (Nat.le_of_ble_eq_true rfl) (by decide) (a' := 0) (b' := 0) ⟨rfl, rfl⟩ dX13_noWalk_16 (fun v3 hv3 => ?_)
    refine T_if_ne (pc := 19) C 26 dX13_noWalk_19 rfl hv3.1 (fun c4 => ?_) (fun c4 => ?_)
    · refine T_iconst (pc := 26) C dX13_noWalk_26 ?_
      exact T_iret (pc := 27) 0 (fun h9 => h9) (rngL rfl) (nar_I _) (by decide) dX13_noWalk_27
    · refine T_iconst (pc := 22) C dX13_noWalk_22 ?_
      refine T_goto (pc := 23) C 27 dX13_noWalk_23 rfl ?_
      exact T_iret (pc := 27) 2 (fun h9 => h9) (rngL rfl) (nar_I _) (by decide) dX13_noWalk_27
  · refine T_iconst (pc := 9) C dX13_noWalk_9 ?_
    refine T_goto (pc := 10) C 27 dX13_noWalk_10 rfl ?_
    exact T_iret (pc := 27) 1 (fun h9 => h9) (rngL rfl) (nar_I _) (by decide) dX13_noWalk_27

abbrev rm_X13_removesWalk : Room := ⟨1, 0, 0, 23⟩
theorem cm_X13_removesWalk : cmV yX13_removesWalk cX13_removesWalk 4 (some .int) 2 := ⟨kw_19, kw_145, ⟨by decide +kernel, by decide +kernel, by decide +kernel⟩, kw_199, kw_200⟩
def f_X13_removesWalk (σ : Sm) (x1 : Int) (x2 : Int) : Option (Sm × Int) :=
  (f_X13_walk σ x1 x2).bind fun v1 => (f_X13_setWalk σ x1 x2 0).bind fun s2 => if rng ((s2 1 1) - 1) then bl (upm s2 1 1 ((s2 1 1) - 1)) fun s5 => some (s5, v1) else none
theorem ct_X13_removesWalk {l : Launch} {cy : ClassId} {ad : Nat → Nat} {G : va_G} (σ : Sm) (x1 : Int) (x2 : Int) (h1 : rng x1) (h2 : rng x2) (hw : wfm σ) (o : Sm × Int) (h : f_X13_removesWalk σ x1 x2 = some o) : CtI l yX13_removesWalk cX13_removesWalk 4 (some .int) rm_X13_removesWalk (wlm cy ad) wfm G (tym cy) [.ref (ad 0), vi x1, vi x2] σ o.1 o.2 := by
  refine ctI_of (by decide) (Nat.le_of_ble_eq_true rfl) hw o o h (fun X Y w => EndI X Y cX13_removesWalk rm_X13_removesWalk .int w) (fun _ _ h => h) (fun X A Q hX C => ?_)
  replace C : Cx X (Ym cy ad G A 4 Q) cX13_removesWalk RX13 (some .int) rm_X13_removesWalk (tym cy) := C
  show T X (Ym cy ad G A 4 Q) (fun w => EndI X (Ym cy ad G A 4 Q) cX13_removesWalk rm_X13_removesWalk .int w) 0 0 0 [(0, .ref (ad 0)), (1, vi x1), (2, vi x2)] [] σ (f_X13_removesWalk σ x1 x2)
  unfold f_X13_removesWalk
  refine T_aload_n (pc := 0) C dX13_removesWalk_0 rfl 0 rfl ?_
  refine T_iload_n (pc := 1) C dX13_removesWalk_1 rfl 1 rfl ?_
  refine T_iload_n (pc := 2) C dX13_removesWalk_2 rfl 2 rfl ?_
  refine T_callVip (pc := 3) C [vi x1, vi x2] [] (fun o h9 hw => ct_X13_walk σ x1 x2 h1 h2 hw o h9) kw_185 cm_X13_walk rcm rfl rfl (Nat.le_of_ble_eq_true rfl) (by decide) (a' := 0) (b' := 0) ⟨rfl, rfl⟩ dX13_removesWalk_3 (fun v1 hv1 => ?_)
  refine T_istore_n (pc := 6) (L' := [(3, vi v1), (0, .ref (ad 0)), (1, vi x1), (2, vi x2)]) C dX13_removesWalk_6 rfl (Nat.le_of_ble_eq_true rfl) rfl ?_
  refine T_aload_n (pc := 7) C dX13_removesWalk_7 rfl 1 rfl ?_
  refine T_iload_n (pc := 8) C dX13_removesWalk_8 rfl 2 rfl ?_
  refine T_iload_n (pc := 9) C dX13_removesWalk_9 rfl 3 rfl ?_
  refine T_iconst (pc := 10) C dX13_removesWalk_10 ?_
  refine T_callVv (pc := 11) C [vi x1, vi x2, vi 0] [] (fun o h9 hw => ct_X13_setWalk σ x1 x2 0 h1 h2 (rngL rfl) hw o h9) kw_190 cm_X13_setWalk rcm rfl rfl (Nat.le_of_ble_eq_true rfl) (by decide) (a' := 0) (b' := 0) ⟨rfl, rfl⟩ dX13_removesWalk_11 (fun s2 => ?_)
  refine T_aload_n (pc := 14) C dX13_removesWalk_14 rfl 1 rfl ?_
  refine Tm_getA (pc := 15) C 0 1 (by decide) (fun _ => rfl) kw_152 rfl dX13_removesWalk_15 ?_
  refine T_iconst (pc := 18) C dX13_removesWalk_18 ?_
  refine T_dup2 (pc := 19) C dX13_removesWalk_19 rfl rfl ?_
  refine Tm_iald (pc := 20) C 1 1 ⟨by decide, by decide⟩ ⟨by decide, by decide⟩ rfl dX13_removesWalk_20 (fun r3 => ?_)
  refine T_iconst (pc := 21) C dX13_removesWalk_21 ?_
  refine T_isub (pc := 22) C dX13_removesWalk_22 ?_
  refine T_guard (fun g4 => ?_)
  refine Tm_iast (pc := 23) C 1 1 ⟨by decide, by decide⟩ ⟨by decide, by decide⟩ rfl g4 dX13_removesWalk_23 ?_
  refine T_blS (fun s5 => ?_)
  refine T_iload_n (pc := 24) C dX13_removesWalk_24 rfl 0 rfl ?_
  exact T_iret (pc := 25) (s5, v1) (fun h9 => h9) hv1.1 (nar_I _) (by decide) dX13_removesWalk_25

abbrev rm_X13_removeWalk : Room := ⟨4, 0, 0, 87⟩
theorem cm_X13_removeWalk : cmV yX13_removeWalk cX13_removeWalk 4 (some .int) 2 := ⟨kw_20, kw_145, ⟨by decide +kernel, by decide +kernel, by decide +kernel⟩, kw_203, kw_204⟩
def f_X13_removeWalk (N : Nat) (σ : Sm) (x1 : Int) (x2 : Int) : Option (Sm × Int) :=
  (f_X13_begin N σ).bind fun s1 => (f_X13_noWalk s1 x1 x2).bind fun v2 => (if v2 ≤ 0 then (f_X13_removesWalk s1 x1 x2).bind fun v4 => (f_X13_commit N v4.1 v4.2).bind fun v5 => some (v5.1, v5.2) else (f_X13_fail s1 v2).bind fun v6 => some (v6.1, v6.2))
theorem ct_X13_removeWalk {l : Launch} {cy : ClassId} {ad : Nat → Nat} {G : va_G} (N : Nat) (σ : Sm) (x1 : Int) (x2 : Int) (h1 : rng x1) (h2 : rng x2) (hw : wfm σ) (o : Sm × Int) (h : f_X13_removeWalk N σ x1 x2 = some o) : CtI l yX13_removeWalk cX13_removeWalk 4 (some .int) rm_X13_removeWalk (wlm cy ad) wfm G (tym cy) [.ref (ad 0), vi x1, vi x2] σ o.1 o.2 := by
  refine ctI_of (by decide) (Nat.le_of_ble_eq_true rfl) hw o o h (fun X Y w => EndI X Y cX13_removeWalk rm_X13_removeWalk .int w) (fun _ _ h => h) (fun X A Q hX C => ?_)
  replace C : Cx X (Ym cy ad G A 4 Q) cX13_removeWalk RX13 (some .int) rm_X13_removeWalk (tym cy) := C
  show T X (Ym cy ad G A 4 Q) (fun w => EndI X (Ym cy ad G A 4 Q) cX13_removeWalk rm_X13_removeWalk .int w) 0 0 0 [(0, .ref (ad 0)), (1, vi x1), (2, vi x2)] [] σ (f_X13_removeWalk N σ x1 x2)
  unfold f_X13_removeWalk
  refine T_aload_n (pc := 0) C dX13_removeWalk_0 rfl 0 rfl ?_
  refine T_callVv (pc := 1) C [] [] (fun o h9 hw => ct_X13_begin N σ hw o h9) kw_177 cm_X13_begin rcm rfl rfl (Nat.le_of_ble_eq_true rfl) (by decide) (a' := 0) (b' := 0) ⟨rfl, rfl⟩ dX13_removeWalk_1 (fun s1 => ?_)
  refine T_aload_n (pc := 4) C dX13_removeWalk_4 rfl 0 rfl ?_
  refine T_iload_n (pc := 5) C dX13_removeWalk_5 rfl 1 rfl ?_
  refine T_iload_n (pc := 6) C dX13_removeWalk_6 rfl 2 rfl ?_
  refine T_callVip (pc := 7) C [vi x1, vi x2] [] (fun o h9 hw => ct_X13_noWalk s1 x1 x2 h1 h2 hw o h9) kw_201 cm_X13_noWalk rcm rfl rfl (Nat.le_of_ble_eq_true rfl) (by decide) (a' := 0) (b' := 0) ⟨rfl, rfl⟩ dX13_removeWalk_7 (fun v2 hv2 => ?_)
  refine T_istore_n (pc := 10) (L' := [(3, vi v2), (0, .ref (ad 0)), (1, vi x1), (2, vi x2)]) C dX13_removeWalk_10 rfl (Nat.le_of_ble_eq_true rfl) rfl ?_
  refine T_iload_n (pc := 11) C dX13_removeWalk_11 rfl 0 rfl ?_
  refine T_if_le (pc := 12) C 23 dX13_removeWalk_12 rfl hv2.1 (fun c3 => ?_) (fun c3 => ?_)
  · refine T_aload_n (pc := 23) C dX13_removeWalk_23 rfl 1 rfl ?_
    refine T_aload_n (pc := 24) C dX13_removeWalk_24 rfl 1 rfl ?_
    refine T_iload_n (pc := 25) C dX13_removeWalk_25 rfl 2 rfl ?_
    refine T_iload_n (pc := 26) C dX13_removeWalk_26 rfl 3 rfl ?_
    refine T_callVi (pc := 27) C [vi x1, vi x2] [.ref (ad 0)] (fun o h9 hw => ct_X13_removesWalk s1 x1 x2 h1 h2 hw o h9) kw_202 cm_X13_removesWalk rcm rfl rfl (Nat.le_of_ble_eq_true rfl) (by decide) (a' := 0) (b' := 0) ⟨rfl, rfl⟩ dX13_removeWalk_27 (fun v4 hv4 => ?_)
    refine T_callVi (pc := 30) C [vi v4.2] [] (fun o h9 hw => ct_X13_commit N v4.1 v4.2 hv4.1 hw o h9) kw_180 cm_X13_commit rcm rfl rfl (Nat.le_of_ble_eq_true rfl) (by decide) (a' := 0) (b' := 0) ⟨rfl, rfl⟩ dX13_removeWalk_30 (fun v5 hv5 => ?_)
    exact T_iret (pc := 33) (v5.1, v5.2) (fun h9 => h9) hv5.1 (nar_I _) (by decide) dX13_removeWalk_33
  · refine T_aload_n (pc := 15) C dX13_removeWalk_15 rfl 1 rfl ?_
    refine T_iload_n (pc := 16) C dX13_removeWalk_16 rfl 0 rfl ?_
    refine T_callVi (pc := 17) C [vi v2] [] (fun o h9 hw => ct_X13_fail s1 v2 hv2.1 hw o h9) kw_181 cm_X13_fail rcm rfl rfl (Nat.le_of_ble_eq_true rfl) (by decide) (a' := 0) (b' := 0) ⟨rfl, rfl⟩ dX13_removeWalk_17 (fun v6 hv6 => ?_)
    refine T_goto (pc := 20) C 33 dX13_removeWalk_20 rfl ?_
    exact T_iret (pc := 33) (v6.1, v6.2) (fun h9 => h9) hv6.1 (nar_I _) (by decide) dX13_removeWalk_33

abbrev rm_X13_isLine : Room := ⟨1, 0, 0, 22⟩
theorem cm_X13_isLine : cmV yX13_isLine cX13_isLine 2 (some .boolean) 1 := ⟨kw_21, kw_145, ⟨by decide +kernel, by decide +kernel, by decide +kernel⟩, kw_205, kw_206⟩
def f_X13_isLine (σ : Sm) (x1 : Int) : Option Int :=
  if rng ((σ 1 2) - 1) then (f_X13_in x1 0 ((σ 1 2) - 1)).bind fun v3 => some v3 else none
theorem ct_X13_isLine {l : Launch} {cy : ClassId} {ad : Nat → Nat} {G : va_G} (σ : Sm) (x1 : Int) (h1 : rng x1) (hw : wfm σ) (o : Int) (h : f_X13_isLine σ x1 = some o) : CtI l yX13_isLine cX13_isLine 2 (some .boolean) rm_X13_isLine (wlm cy ad) wfm G (tym cy) [.ref (ad 0), vi x1] σ σ o := by
  refine ctI_of (by decide) (Nat.le_of_ble_eq_true rfl) hw (σ, o) o h (fun X Y v => EndI X Y cX13_isLine rm_X13_isLine .boolean (σ, v)) (fun _ _ h => h) (fun X A Q hX C => ?_)
  replace C : Cx X (Ym cy ad G A 2 Q) cX13_isLine RX13 (some .boolean) rm_X13_isLine (tym cy) := C
  show T X (Ym cy ad G A 2 Q) (fun v => EndI X (Ym cy ad G A 2 Q) cX13_isLine rm_X13_isLine .boolean (σ, v)) 0 0 0 [(0, .ref (ad 0)), (1, vi x1)] [] σ (f_X13_isLine σ x1)
  unfold f_X13_isLine
  refine T_iload_n (pc := 0) C dX13_isLine_0 rfl 1 rfl ?_
  refine T_iconst (pc := 1) C dX13_isLine_1 ?_
  refine T_aload_n (pc := 2) C dX13_isLine_2 rfl 0 rfl ?_
  refine Tm_getA (pc := 3) C 0 1 (by decide) (fun _ => rfl) kw_152 rfl dX13_isLine_3 ?_
  refine T_iconst (pc := 6) C dX13_isLine_6 ?_
  refine Tm_iald (pc := 7) C 1 2 ⟨by decide, by decide⟩ ⟨by decide, by decide⟩ rfl dX13_isLine_7 (fun r1 => ?_)
  refine T_iconst (pc := 8) C dX13_isLine_8 ?_
  refine T_isub (pc := 9) C dX13_isLine_9 ?_
  refine T_guard (fun g2 => ?_)
  refine T_callSip (pc := 10) C [vi x1, vi 0, vi ((σ 1 2) - 1)] [] (fun o h9 hw => ct_X13_in σ x1 0 ((σ 1 2) - 1) h1 (rngL rfl) g2 hw o h9) kw_161 cm_X13_in rfl rfl (Nat.le_of_ble_eq_true rfl) (by decide) (a' := 0) (b' := 0) ⟨rfl, rfl⟩ dX13_isLine_10 (fun v3 hv3 => ?_)
  exact T_iret (pc := 13) v3 (fun h9 => h9) hv3.1 (nar_Z (bit_of_nar hv3)) (by decide) dX13_isLine_13

abbrev rm_X13_l : Room := ⟨0, 0, 0, 0⟩
theorem cm_X13_l : cmV yX13_l cX13_l 3 (some .int) 2 := ⟨kw_22, kw_145, ⟨by decide +kernel, by decide +kernel, by decide +kernel⟩, kw_207, kw_208⟩
def f_X13_l (σ : Sm) (x1 : Int) (x2 : Int) : Option Int :=
  if 0 ≤ ((132 + (16 * x1)) + x2) ∧ ((132 + (16 * x1)) + x2) < 340 then some (σ 1 ((132 + (16 * x1)) + x2).toNat) else none
theorem ct_X13_l {l : Launch} {cy : ClassId} {ad : Nat → Nat} {G : va_G} (σ : Sm) (x1 : Int) (x2 : Int) (h1 : rng x1) (h2 : rng x2) (hw : wfm σ) (o : Int) (h : f_X13_l σ x1 x2 = some o) : CtI l yX13_l cX13_l 3 (some .int) rm_X13_l (wlm cy ad) wfm G (tym cy) [.ref (ad 0), vi x1, vi x2] σ σ o := by
  refine ctI_of (by decide) (Nat.le_of_ble_eq_true rfl) hw (σ, o) o h (fun X Y v => EndI X Y cX13_l rm_X13_l .int (σ, v)) (fun _ _ h => h) (fun X A Q hX C => ?_)
  replace C : Cx X (Ym cy ad G A 3 Q) cX13_l RX13 (some .int) rm_X13_l (tym cy) := C
  show T X (Ym cy ad G A 3 Q) (fun v => EndI X (Ym cy ad G A 3 Q) cX13_l rm_X13_l .int (σ, v)) 0 0 0 [(0, .ref (ad 0)), (1, vi x1), (2, vi x2)] [] σ (f_X13_l σ x1 x2)
  unfold f_X13_l
  refine T_aload_n (pc := 0) C dX13_l_0 rfl 0 rfl ?_
  refine Tm_getA (pc := 1) C 0 1 (by decide) (fun _ => rfl) kw_152 rfl dX13_l_1 ?_
  refine T_sipush (pc := 4) C dX13_l_4 (by decide) ?_
  refine T_bipush (pc := 7) C dX13_l_7 (by decide) ?_
  refine T_iload_n (pc := 9) C dX13_l_9 rfl 1 rfl ?_
  refine T_imul (pc := 10) C dX13_l_10 ?_
  refine T_iadd (pc := 11) C dX13_l_11 ?_
  refine T_iload_n (pc := 12) C dX13_l_12 rfl 2 rfl ?_
  refine T_iadd (pc := 13) C dX13_l_13 ?_
  refine T_guard (fun g1 => ?_)
  refine Tm_iald (pc := 14) C 1 ((132 + (16 * x1)) + x2).toNat ⟨by decide, by decide⟩ g1 rfl dX13_l_14 (fun r2 => ?_)
  exact T_iret (pc := 15) (σ 1 ((132 + (16 * x1)) + x2).toNat) (fun h9 => h9) r2 (nar_I _) (by decide) dX13_l_15

abbrev rm_X13_setLine : Room := ⟨0, 0, 0, 0⟩
theorem cm_X13_setLine : cmV yX13_setLine cX13_setLine 4 none 3 := ⟨kw_23, kw_145, ⟨by decide +kernel, by decide +kernel, by decide +kernel⟩, kw_209, kw_210⟩
def f_X13_setLine (σ : Sm) (x1 : Int) (x2 : Int) (x3 : Int) : Option Sm :=
  if 0 ≤ ((132 + (16 * x1)) + x2) ∧ ((132 + (16 * x1)) + x2) < 340 then bl (upm σ 1 ((132 + (16 * x1)) + x2).toNat x3) fun s2 => some s2 else none
theorem ct_X13_setLine {l : Launch} {cy : ClassId} {ad : Nat → Nat} {G : va_G} (σ : Sm) (x1 : Int) (x2 : Int) (x3 : Int) (h1 : rng x1) (h2 : rng x2) (h3 : rng x3) (hw : wfm σ) (o : Sm) (h : f_X13_setLine σ x1 x2 x3 = some o) : CtV l yX13_setLine cX13_setLine 4 rm_X13_setLine (wlm cy ad) wfm G (tym cy) [.ref (ad 0), vi x1, vi x2, vi x3] σ o := by
  refine ctV_of (by decide) (Nat.le_of_ble_eq_true rfl) hw o o h (fun X Y w => EndV X Y cX13_setLine rm_X13_setLine w) (fun _ _ h => h) (fun X A Q hX C => ?_)
  replace C : Cx X (Ym cy ad G A 4 Q) cX13_setLine RX13 none rm_X13_setLine (tym cy) := C
  show T X (Ym cy ad G A 4 Q) (fun w => EndV X (Ym cy ad G A 4 Q) cX13_setLine rm_X13_setLine w) 0 0 0 [(0, .ref (ad 0)), (1, vi x1), (2, vi x2), (3, vi x3)] [] σ (f_X13_setLine σ x1 x2 x3)
  unfold f_X13_setLine
  refine T_aload_n (pc := 0) C dX13_setLine_0 rfl 0 rfl ?_
  refine Tm_getA (pc := 1) C 0 1 (by decide) (fun _ => rfl) kw_152 rfl dX13_setLine_1 ?_
  refine T_sipush (pc := 4) C dX13_setLine_4 (by decide) ?_
  refine T_bipush (pc := 7) C dX13_setLine_7 (by decide) ?_
  refine T_iload_n (pc := 9) C dX13_setLine_9 rfl 1 rfl ?_
  refine T_imul (pc := 10) C dX13_setLine_10 ?_
  refine T_iadd (pc := 11) C dX13_setLine_11 ?_
  refine T_iload_n (pc := 12) C dX13_setLine_12 rfl 2 rfl ?_
  refine T_iadd (pc := 13) C dX13_setLine_13 ?_
  refine T_iload_n (pc := 14) C dX13_setLine_14 rfl 3 rfl ?_
  refine T_guard (fun g1 => ?_)
  refine Tm_iast (pc := 15) C 1 ((132 + (16 * x1)) + x2).toNat ⟨by decide, by decide⟩ g1 rfl h3 dX13_setLine_15 ?_
  refine T_blS (fun s2 => ?_)
  exact T_vret (pc := 16) s2 (fun h9 => h9) (by decide) dX13_setLine_16

abbrev rm_X13_hop : Room := ⟨1, 0, 0, 22⟩
theorem cm_X13_hop : cmV yX13_hop cX13_hop 2 (some .int) 1 := ⟨kw_24, kw_145, ⟨by decide +kernel, by decide +kernel, by decide +kernel⟩, kw_212, kw_213⟩
def f_X13_hop (σ : Sm) (x1 : Int) : Option Int :=
  (f_X13_l σ x1 2).bind fun v1 => (f_X13_l σ x1 3).bind fun v3 => if rng (v1 + ((σ 1 6) * v3)) then some (v1 + ((σ 1 6) * v3)) else none
theorem ct_X13_hop {l : Launch} {cy : ClassId} {ad : Nat → Nat} {G : va_G} (σ : Sm) (x1 : Int) (h1 : rng x1) (hw : wfm σ) (o : Int) (h : f_X13_hop σ x1 = some o) : CtI l yX13_hop cX13_hop 2 (some .int) rm_X13_hop (wlm cy ad) wfm G (tym cy) [.ref (ad 0), vi x1] σ σ o := by
  refine ctI_of (by decide) (Nat.le_of_ble_eq_true rfl) hw (σ, o) o h (fun X Y v => EndI X Y cX13_hop rm_X13_hop .int (σ, v)) (fun _ _ h => h) (fun X A Q hX C => ?_)
  replace C : Cx X (Ym cy ad G A 2 Q) cX13_hop RX13 (some .int) rm_X13_hop (tym cy) := C
  show T X (Ym cy ad G A 2 Q) (fun v => EndI X (Ym cy ad G A 2 Q) cX13_hop rm_X13_hop .int (σ, v)) 0 0 0 [(0, .ref (ad 0)), (1, vi x1)] [] σ (f_X13_hop σ x1)
  unfold f_X13_hop
  refine T_aload_n (pc := 0) C dX13_hop_0 rfl 0 rfl ?_
  refine T_iload_n (pc := 1) C dX13_hop_1 rfl 1 rfl ?_
  refine T_iconst (pc := 2) C dX13_hop_2 ?_
  refine T_callVip (pc := 3) C [vi x1, vi 2] [] (fun o h9 hw => ct_X13_l σ x1 2 h1 (rngL rfl) hw o h9) kw_211 cm_X13_l rcm rfl rfl (Nat.le_of_ble_eq_true rfl) (by decide) (a' := 0) (b' := 0) ⟨rfl, rfl⟩ dX13_hop_3 (fun v1 hv1 => ?_)
  refine T_aload_n (pc := 6) C dX13_hop_6 rfl 0 rfl ?_
  refine Tm_getA (pc := 7) C 0 1 (by decide) (fun _ => rfl) kw_152 rfl dX13_hop_7 ?_
  refine T_bipush (pc := 10) C dX13_hop_10 (by decide) ?_
  refine Tm_iald (pc := 12) C 1 6 ⟨by decide, by decide⟩ ⟨by decide, by decide⟩ rfl dX13_hop_12 (fun r2 => ?_)
  refine T_aload_n (pc := 13) C dX13_hop_13 rfl 0 rfl ?_
  refine T_iload_n (pc := 14) C dX13_hop_14 rfl 1 rfl ?_
  refine T_iconst (pc := 15) C dX13_hop_15 ?_
  refine T_callVip (pc := 16) C [vi x1, vi 3] [vi (σ 1 6), vi v1] (fun o h9 hw => ct_X13_l σ x1 3 h1 (rngL rfl) hw o h9) kw_211 cm_X13_l rcm rfl rfl (Nat.le_of_ble_eq_true rfl) (by decide) (a' := 0) (b' := 0) ⟨rfl, rfl⟩ dX13_hop_16 (fun v3 hv3 => ?_)
  refine T_imul (pc := 19) C dX13_hop_19 ?_
  refine T_iadd (pc := 20) C dX13_hop_20 ?_
  refine T_guard (fun g4 => ?_)
  exact T_iret (pc := 21) (v1 + ((σ 1 6) * v3)) (fun h9 => h9) g4 (nar_I _) (by decide) dX13_hop_21

abbrev rm_X13_isRunning : Room := ⟨1, 0, 0, 22⟩
theorem cm_X13_isRunning : cmV yX13_isRunning cX13_isRunning 2 (some .boolean) 1 := ⟨kw_25, kw_145, ⟨by decide +kernel, by decide +kernel, by decide +kernel⟩, kw_214, kw_215⟩
def f_X13_isRunning (σ : Sm) (x1 : Int) : Option Int :=
  (f_X13_l σ x1 5).bind fun v1 => (if v1 < 2 then some 0 else (f_X13_l σ x1 6).bind fun v3 => (if v3 = 0 then some 1 else some 0))
theorem ct_X13_isRunning {l : Launch} {cy : ClassId} {ad : Nat → Nat} {G : va_G} (σ : Sm) (x1 : Int) (h1 : rng x1) (hw : wfm σ) (o : Int) (h : f_X13_isRunning σ x1 = some o) : CtI l yX13_isRunning cX13_isRunning 2 (some .boolean) rm_X13_isRunning (wlm cy ad) wfm G (tym cy) [.ref (ad 0), vi x1] σ σ o := by
  refine ctI_of (by decide) (Nat.le_of_ble_eq_true rfl) hw (σ, o) o h (fun X Y v => EndI X Y cX13_isRunning rm_X13_isRunning .boolean (σ, v)) (fun _ _ h => h) (fun X A Q hX C => ?_)
  replace C : Cx X (Ym cy ad G A 2 Q) cX13_isRunning RX13 (some .boolean) rm_X13_isRunning (tym cy) := C
  show T X (Ym cy ad G A 2 Q) (fun v => EndI X (Ym cy ad G A 2 Q) cX13_isRunning rm_X13_isRunning .boolean (σ, v)) 0 0 0 [(0, .ref (ad 0)), (1, vi x1)] [] σ (f_X13_isRunning σ x1)
  unfold f_X13_isRunning
  refine T_aload_n (pc := 0) C dX13_isRunning_0 rfl 0 rfl ?_
  refine T_iload_n (pc := 1) C dX13_isRunning_1 rfl 1 rfl ?_
  refine T_iconst (pc := 2) C dX13_isRunning_2 ?_
  refine T_callVip (pc := 3) C [vi x1, vi 5] [] (fun o h9 hw => ct_X13_l σ x1 5 h1 (rngL rfl) hw o h9) kw_211 cm_X13_l rcm rfl rfl (Nat.le_of_ble_eq_true rfl) (by decide) (a' := 0) (b' := 0) ⟨rfl, rfl⟩ dX13_isRunning_3 (fun v1 hv1 => ?_)
  refine T_iconst (pc := 6) C dX13_isRunning_6 ?_
  refine T_icmp_lt (pc := 7) C 24 dX13_isRunning_7 rfl hv1.1 (rngL rfl) (fun c2 => ?_) (fun c2 => ?_)
  · refine T_iconst (pc := 24) C dX13_isRunning_24 ?_
    exact T_iret (pc := 25) 0 (fun h9 => h9) (rngL rfl) (nar_Z (Or.inl rfl)) (by decide) dX13_isRunning_25
  · refine T_aload_n (pc := 10) C dX13_isRunning_10 rfl 0 rfl ?_
    refine T_iload_n (pc := 11) C dX13_isRunning_11 rfl 1 rfl ?_
    refine T_bipush (pc := 12) C dX13_isRunning_12 (by decide) ?_
    refine T_callVip (pc := 14) C [vi x1, vi 6] [] (fun o h9 hw => ct_X13_l σ x1 6 h1 (rngL rfl) hw o h9) kw_211 cm_X13_l rcm rfl rfl (Nat.le_of_ble_eq_true rfl) (by decide) (a' := 0) (b' := 0) ⟨rfl, rfl⟩ dX13_isRunning_14 (fun v3 hv3 => ?_)
    refine T_if_ne (pc := 17) C 24 dX13_isRunning_17 rfl hv3.1 (fun c4 => ?_) (fun c4 => ?_)
    · refine T_iconst (pc := 24) C dX13_isRunning_24 ?_
      exact T_iret (pc := 25) 0 (fun h9 => h9) (rngL rfl) (nar_Z (Or.inl rfl)) (by decide) dX13_isRunning_25
    · refine T_iconst (pc := 20) C dX13_isRunning_20 ?_
      refine T_goto (pc := 21) C 25 dX13_isRunning_21 rfl ?_
      exact T_iret (pc := 25) 1 (fun h9 => h9) (rngL rfl) (nar_Z (Or.inr rfl)) (by decide) dX13_isRunning_25

abbrev rm_X13_at : Room := ⟨1, 0, 0, 22⟩
theorem cm_X13_at : cmV yX13_at cX13_at 3 (some .int) 2 := ⟨kw_26, kw_145, ⟨by decide +kernel, by decide +kernel, by decide +kernel⟩, kw_216, kw_217⟩
def f_X13_at (σ : Sm) (x1 : Int) (x2 : Int) : Option Int :=
  (f_X13_l σ x1 5).bind fun v1 => if 0 ≤ x2 ∧ 0 < v1 then if rng (7 + (x2 % v1)) then (f_X13_l σ x1 (7 + (x2 % v1))).bind fun v4 => some v4 else none else none
theorem ct_X13_at {l : Launch} {cy : ClassId} {ad : Nat → Nat} {G : va_G} (σ : Sm) (x1 : Int) (x2 : Int) (h1 : rng x1) (h2 : rng x2) (hw : wfm σ) (o : Int) (h : f_X13_at σ x1 x2 = some o) : CtI l yX13_at cX13_at 3 (some .int) rm_X13_at (wlm cy ad) wfm G (tym cy) [.ref (ad 0), vi x1, vi x2] σ σ o := by
  refine ctI_of (by decide) (Nat.le_of_ble_eq_true rfl) hw (σ, o) o h (fun X Y v => EndI X Y cX13_at rm_X13_at .int (σ, v)) (fun _ _ h => h) (fun X A Q hX C => ?_)
  replace C : Cx X (Ym cy ad G A 3 Q) cX13_at RX13 (some .int) rm_X13_at (tym cy) := C
  show T X (Ym cy ad G A 3 Q) (fun v => EndI X (Ym cy ad G A 3 Q) cX13_at rm_X13_at .int (σ, v)) 0 0 0 [(0, .ref (ad 0)), (1, vi x1), (2, vi x2)] [] σ (f_X13_at σ x1 x2)
  unfold f_X13_at
  refine T_aload_n (pc := 0) C dX13_at_0 rfl 0 rfl ?_
  refine T_iload_n (pc := 1) C dX13_at_1 rfl 1 rfl ?_
  refine T_bipush (pc := 2) C dX13_at_2 (by decide) ?_
  refine T_iload_n (pc := 4) C dX13_at_4 rfl 2 rfl ?_
  refine T_aload_n (pc := 5) C dX13_at_5 rfl 0 rfl ?_
  refine T_iload_n (pc := 6) C dX13_at_6 rfl 1 rfl ?_
  refine T_iconst (pc := 7) C dX13_at_7 ?_
  refine T_callVip (pc := 8) C [vi x1, vi 5] [vi x2, vi 7, vi x1, .ref (ad 0)] (fun o h9 hw => ct_X13_l σ x1 5 h1 (rngL rfl) hw o h9) kw_211 cm_X13_l rcm rfl rfl (Nat.le_of_ble_eq_true rfl) (by decide) (a' := 0) (b' := 0) ⟨rfl, rfl⟩ dX13_at_8 (fun v1 hv1 => ?_)
  refine T_guard (fun g2 => ?_)
  refine T_irem (pc := 11) C dX13_at_11 h2 hv1.1 g2 ?_
  refine T_iadd (pc := 12) C dX13_at_12 ?_
  refine T_guard (fun g3 => ?_)
  refine T_callVip (pc := 13) C [vi x1, vi (7 + (x2 % v1))] [] (fun o h9 hw => ct_X13_l σ x1 (7 + (x2 % v1)) h1 g3 hw o h9) kw_211 cm_X13_l rcm rfl rfl (Nat.le_of_ble_eq_true rfl) (by decide) (a' := 0) (b' := 0) ⟨rfl, rfl⟩ dX13_at_13 (fun v4 hv4 => ?_)
  exact T_iret (pc := 16) v4 (fun h9 => h9) hv4.1 (nar_I _) (by decide) dX13_at_16

abbrev rm_X13_placeIn : Room := ⟨1, 0, 0, 22⟩
theorem cm_X13_placeIn : cmV yX13_placeIn cX13_placeIn 4 (some .int) 2 := ⟨kw_27, kw_145, ⟨by decide +kernel, by decide +kernel, by decide +kernel⟩, kw_218, kw_219⟩
def f_X13_placeIn_2 (σ : Sm) (x1 : Int) (x2 : Int) : Nat → Int → Option (Int ⊕ Unit)
  | 0, _ => none
  | n + 1, x3 => (f_X13_l σ x1 5).bind fun v6 => (if v6 ≤ x3 then some (.inr ()) else if rng (7 + x3) then (f_X13_l σ x1 (7 + x3)).bind fun v9 => (if v9 = x2 then some (.inl x3) else f_X13_placeIn_2 σ x1 x2 n (x3 + 1)) else none)
theorem lp_X13_placeIn_2 {X : vjX} {A : Nat → Prop} {Q : State → Prop} {cy : ClassId} {ad : Nat → Nat} {G : va_G} (C : Cx X (Ym cy ad G A 4 Q) cX13_placeIn RX13 (some .int) rm_X13_placeIn (tym cy)) (σ : Sm) (x1 : Int) (x2 : Int) (h1 : rng x1) (h2 : rng x2) : ∀ (n : Nat) (x3 : Int) (h3 : rng x3), T X (Ym cy ad G A 4 Q) (Sum.elim (fun v => EndI X (Ym cy ad G A 4 Q) cX13_placeIn rm_X13_placeIn .int (σ, v)) (fun (q : Unit) => True → J X (Ym cy ad G A 4 Q) 0 0 33 [] [] σ)) 0 0 2 [(0, .ref (ad 0)), (1, vi x1), (2, vi x2), (3, vi x3)] [] σ (f_X13_placeIn_2 σ x1 x2 n x3) := by
  intro n
  induction n with
  | zero => intro x3 h3; exact T_none
  | succ n ih =>
    intro x3 h3
    rw [f_X13_placeIn_2]
    refine T_iload_n (pc := 2) C dX13_placeIn_2 rfl 3 rfl ?_
    refine T_aload_n (pc := 3) C dX13_placeIn_3 rfl 0 rfl ?_
    refine T_iload_n (pc := 4) C dX13_placeIn_4 rfl 1 rfl ?_
    refine T_iconst (pc := 5) C dX13_placeIn_5 ?_
    refine T_callVip (pc := 6) C [vi x1, vi 5] [vi x3] (fun o h9 hw => ct_X13_l σ x1 5 h1 (rngL rfl) hw o h9) kw_211 cm_X13_l rcm rfl rfl (Nat.le_of_ble_eq_true rfl) (by decide) (a' := 0) (b' := 0) ⟨rfl, rfl⟩ dX13_placeIn_6 (fun v6 hv6 => ?_)
    refine T_icmp_ge (pc := 9) C 33 dX13_placeIn_9 rfl h3 hv6.1 (fun c7 => ?_) (fun c7 => ?_)
    · refine T_sub (L' := []) [] rfl ?_
      exact T_exit (fun h9 => h9 trivial)
    · refine T_aload_n (pc := 12) C dX13_placeIn_12 rfl 0 rfl ?_
      refine T_iload_n (pc := 13) C dX13_placeIn_13 rfl 1 rfl ?_
      refine T_bipush (pc := 14) C dX13_placeIn_14 (by decide) ?_
      refine T_iload_n (pc := 16) C dX13_placeIn_16 rfl 3 rfl ?_
      refine T_iadd (pc := 17) C dX13_placeIn_17 ?_
      refine T_guard (fun g8 => ?_)
      refine T_callVip (pc := 18) C [vi x1, vi (7 + x3)] [] (fun o h9 hw => ct_X13_l σ x1 (7 + x3) h1 g8 hw o h9) kw_211 cm_X13_l rcm rfl rfl (Nat.le_of_ble_eq_true rfl) (by decide) (a' := 0) (b' := 0) ⟨rfl, rfl⟩ dX13_placeIn_18 (fun v9 hv9 => ?_)
      refine T_iload_n (pc := 21) C dX13_placeIn_21 rfl 2 rfl ?_
      refine T_icmp_ne (pc := 22) C 27 dX13_placeIn_22 rfl hv9.1 h2 (fun c10 => ?_) (fun c10 => ?_)
      · refine T_iinc (pc := 27) (L' := [(3, vi (x3 + 1)), (0, .ref (ad 0)), (1, vi x1), (2, vi x2)]) C dX13_placeIn_27 (Nat.le_of_ble_eq_true rfl) 3 rfl rfl ?_
        refine T_goto (pc := 30) C 2 dX13_placeIn_30 rfl ?_
        refine T_sub (L' := [(0, .ref (ad 0)), (1, vi x1), (2, vi x2), (3, vi (x3 + 1))]) [1, 2, 3, 0] rfl ?_
        exact ih (x3 + 1) (rng_inc c7 h3 hv6.1)
      · refine T_iload_n (pc := 25) C dX13_placeIn_25 rfl 3 rfl ?_
        exact T_iret (pc := 26) (Sum.inl x3) (fun h9 => h9) h3 (nar_I _) (by decide) dX13_placeIn_26
def f_X13_placeIn (N : Nat) (σ : Sm) (x1 : Int) (x2 : Int) : Option Int :=
  (f_X13_placeIn_2 σ x1 x2 N 0).bind (Sum.elim (fun v => some v) fun q11 => some (-1))
theorem ct_X13_placeIn {l : Launch} {cy : ClassId} {ad : Nat → Nat} {G : va_G} (N : Nat) (σ : Sm) (x1 : Int) (x2 : Int) (h1 : rng x1) (h2 : rng x2) (hw : wfm σ) (o : Int) (h : f_X13_placeIn N σ x1 x2 = some o) : CtI l yX13_placeIn cX13_placeIn 4 (some .int) rm_X13_placeIn (wlm cy ad) wfm G (tym cy) [.ref (ad 0), vi x1, vi x2] σ σ o := by
  refine ctI_of (by decide) (Nat.le_of_ble_eq_true rfl) hw (σ, o) o h (fun X Y v => EndI X Y cX13_placeIn rm_X13_placeIn .int (σ, v)) (fun _ _ h => h) (fun X A Q hX C => ?_)
  replace C : Cx X (Ym cy ad G A 4 Q) cX13_placeIn RX13 (some .int) rm_X13_placeIn (tym cy) := C
  show T X (Ym cy ad G A 4 Q) (fun v => EndI X (Ym cy ad G A 4 Q) cX13_placeIn rm_X13_placeIn .int (σ, v)) 0 0 0 [(0, .ref (ad 0)), (1, vi x1), (2, vi x2)] [] σ (f_X13_placeIn N σ x1 x2)
  unfold f_X13_placeIn
  refine T_iconst (pc := 0) C dX13_placeIn_0 ?_
  refine T_istore_n (pc := 1) (L' := [(3, vi 0), (0, .ref (ad 0)), (1, vi x1), (2, vi x2)]) C dX13_placeIn_1 rfl (Nat.le_of_ble_eq_true rfl) rfl ?_
  refine T_sub (L' := [(0, .ref (ad 0)), (1, vi x1), (2, vi x2), (3, vi 0)]) [1, 2, 3, 0] rfl ?_
  refine T_loopS (g := fun v => v) (lp_X13_placeIn_2 C σ x1 x2 h1 h2 N 0 (rngL rfl)) (fun v h9 => h9) (fun q11 hq11 => ?_)
  refine T_iconst (pc := 33) C dX13_placeIn_33 ?_
  exact T_iret (pc := 34) (-1) (fun h9 => h9) (rngL rfl) (nar_I _) (by decide) dX13_placeIn_34

abbrev rm_X13_minuteOf : Room := ⟨2, 0, 0, 43⟩
theorem cm_X13_minuteOf : cmV yX13_minuteOf cX13_minuteOf 4 (some .int) 3 := ⟨kw_28, kw_145, ⟨by decide +kernel, by decide +kernel, by decide +kernel⟩, kw_221, kw_222⟩
def f_X13_minuteOf (σ : Sm) (x1 : Int) (x2 : Int) (x3 : Int) : Option Int :=
  (f_X13_l σ x1 1).bind fun v1 => (f_X13_l σ x1 0).bind fun v2 => (f_X13_hop σ x1).bind fun v3 => if rng ((v1 + (x2 * v2)) + (x3 * v3)) then some ((v1 + (x2 * v2)) + (x3 * v3)) else none
theorem ct_X13_minuteOf {l : Launch} {cy : ClassId} {ad : Nat → Nat} {G : va_G} (σ : Sm) (x1 : Int) (x2 : Int) (x3 : Int) (h1 : rng x1) (h2 : rng x2) (h3 : rng x3) (hw : wfm σ) (o : Int) (h : f_X13_minuteOf σ x1 x2 x3 = some o) : CtI l yX13_minuteOf cX13_minuteOf 4 (some .int) rm_X13_minuteOf (wlm cy ad) wfm G (tym cy) [.ref (ad 0), vi x1, vi x2, vi x3] σ σ o := by
  refine ctI_of (by decide) (Nat.le_of_ble_eq_true rfl) hw (σ, o) o h (fun X Y v => EndI X Y cX13_minuteOf rm_X13_minuteOf .int (σ, v)) (fun _ _ h => h) (fun X A Q hX C => ?_)
  replace C : Cx X (Ym cy ad G A 4 Q) cX13_minuteOf RX13 (some .int) rm_X13_minuteOf (tym cy) := C
  show T X (Ym cy ad G A 4 Q) (fun v => EndI X (Ym cy ad G A 4 Q) cX13_minuteOf rm_X13_minuteOf .int (σ, v)) 0 0 0 [(0, .ref (ad 0)), (1, vi x1), (2, vi x2), (3, vi x3)] [] σ (f_X13_minuteOf σ x1 x2 x3)
  unfold f_X13_minuteOf
  refine T_aload_n (pc := 0) C dX13_minuteOf_0 rfl 0 rfl ?_
  refine T_iload_n (pc := 1) C dX13_minuteOf_1 rfl 1 rfl ?_
  refine T_iconst (pc := 2) C dX13_minuteOf_2 ?_
  refine T_callVip (pc := 3) C [vi x1, vi 1] [] (fun o h9 hw => ct_X13_l σ x1 1 h1 (rngL rfl) hw o h9) kw_211 cm_X13_l rcm rfl rfl (Nat.le_of_ble_eq_true rfl) (by decide) (a' := 0) (b' := 0) ⟨rfl, rfl⟩ dX13_minuteOf_3 (fun v1 hv1 => ?_)
  refine T_iload_n (pc := 6) C dX13_minuteOf_6 rfl 2 rfl ?_
  refine T_aload_n (pc := 7) C dX13_minuteOf_7 rfl 0 rfl ?_
  refine T_iload_n (pc := 8) C dX13_minuteOf_8 rfl 1 rfl ?_
  refine T_iconst (pc := 9) C dX13_minuteOf_9 ?_
  refine T_callVip (pc := 10) C [vi x1, vi 0] [vi x2, vi v1] (fun o h9 hw => ct_X13_l σ x1 0 h1 (rngL rfl) hw o h9) kw_211 cm_X13_l rcm rfl rfl (Nat.le_of_ble_eq_true rfl) (by decide) (a' := 0) (b' := 0) ⟨rfl, rfl⟩ dX13_minuteOf_10 (fun v2 hv2 => ?_)
  refine T_imul (pc := 13) C dX13_minuteOf_13 ?_
  refine T_iadd (pc := 14) C dX13_minuteOf_14 ?_
  refine T_iload_n (pc := 15) C dX13_minuteOf_15 rfl 3 rfl ?_
  refine T_aload_n (pc := 16) C dX13_minuteOf_16 rfl 0 rfl ?_
  refine T_iload_n (pc := 17) C dX13_minuteOf_17 rfl 1 rfl ?_
  refine T_callVip (pc := 18) C [vi x1] [vi x3, vi (v1 + (x2 * v2))] (fun o h9 hw => ct_X13_hop σ x1 h1 hw o h9) kw_220 cm_X13_hop rcm rfl rfl (Nat.le_of_ble_eq_true rfl) (by decide) (a' := 0) (b' := 0) ⟨rfl, rfl⟩ dX13_minuteOf_18 (fun v3 hv3 => ?_)
  refine T_imul (pc := 21) C dX13_minuteOf_21 ?_
  refine T_iadd (pc := 22) C dX13_minuteOf_22 ?_
  refine T_guard (fun g4 => ?_)
  exact T_iret (pc := 23) ((v1 + (x2 * v2)) + (x3 * v3)) (fun h9 => h9) g4 (nar_I _) (by decide) dX13_minuteOf_23

abbrev rm_X13_first : Room := ⟨3, 0, 0, 66⟩
theorem cm_X13_first : cmV yX13_first cX13_first 5 (some .int) 3 := ⟨kw_29, kw_145, ⟨by decide +kernel, by decide +kernel, by decide +kernel⟩, kw_224, kw_225⟩
def f_X13_first (σ : Sm) (x1 : Int) (x2 : Int) (x3 : Int) : Option Int :=
  (f_X13_minuteOf σ x1 0 x2).bind fun v1 => bl (x3 - v1) fun v2 => if rng v2 then (if 0 < v2 then (f_X13_l σ x1 0).bind fun v5 => (f_X13_l σ x1 0).bind fun v6 => if rng ((v2 + v5) - 1) then if 0 ≤ ((v2 + v5) - 1) ∧ 0 < v6 then some (((v2 + v5) - 1) / v6) else none else none else some 0) else none
theorem ct_X13_first {l : Launch} {cy : ClassId} {ad : Nat → Nat} {G : va_G} (σ : Sm) (x1 : Int) (x2 : Int) (x3 : Int) (h1 : rng x1) (h2 : rng x2) (h3 : rng x3) (hw : wfm σ) (o : Int) (h : f_X13_first σ x1 x2 x3 = some o) : CtI l yX13_first cX13_first 5 (some .int) rm_X13_first (wlm cy ad) wfm G (tym cy) [.ref (ad 0), vi x1, vi x2, vi x3] σ σ o := by
  refine ctI_of (by decide) (Nat.le_of_ble_eq_true rfl) hw (σ, o) o h (fun X Y v => EndI X Y cX13_first rm_X13_first .int (σ, v)) (fun _ _ h => h) (fun X A Q hX C => ?_)
  replace C : Cx X (Ym cy ad G A 5 Q) cX13_first RX13 (some .int) rm_X13_first (tym cy) := C
  show T X (Ym cy ad G A 5 Q) (fun v => EndI X (Ym cy ad G A 5 Q) cX13_first rm_X13_first .int (σ, v)) 0 0 0 [(0, .ref (ad 0)), (1, vi x1), (2, vi x2), (3, vi x3)] [] σ (f_X13_first σ x1 x2 x3)
  unfold f_X13_first
  refine T_iload_n (pc := 0) C dX13_first_0 rfl 3 rfl ?_
  refine T_aload_n (pc := 1) C dX13_first_1 rfl 0 rfl ?_
  refine T_iload_n (pc := 2) C dX13_first_2 rfl 1 rfl ?_
  refine T_iconst (pc := 3) C dX13_first_3 ?_
  refine T_iload_n (pc := 4) C dX13_first_4 rfl 2 rfl ?_
  refine T_callVip (pc := 5) C [vi x1, vi 0, vi x2] [vi x3] (fun o h9 hw => ct_X13_minuteOf σ x1 0 x2 h1 (rngL rfl) h2 hw o h9) kw_223 cm_X13_minuteOf rcm rfl rfl (Nat.le_of_ble_eq_true rfl) (by decide) (a' := 0) (b' := 0) ⟨rfl, rfl⟩ dX13_first_5 (fun v1 hv1 => ?_)
  refine T_isub (pc := 8) C dX13_first_8 ?_
  refine T_blN (fun v2 => ?_)
  refine T_istore (pc := 9) (L' := [(4, vi v2), (0, .ref (ad 0)), (1, vi x1), (2, vi x2), (3, vi x3)]) C dX13_first_9 (Nat.le_of_ble_eq_true rfl) rfl ?_
  refine T_iload (pc := 11) C dX13_first_11 0 rfl ?_
  refine T_guard (fun g3 => ?_)
  refine T_if_gt (pc := 13) C 20 dX13_first_13 rfl g3 (fun c4 => ?_) (fun c4 => ?_)
  · refine T_iload (pc := 20) C dX13_first_20 0 rfl ?_
    refine T_aload_n (pc := 22) C dX13_first_22 rfl 1 rfl ?_
    refine T_iload_n (pc := 23) C dX13_first_23 rfl 2 rfl ?_
    refine T_iconst (pc := 24) C dX13_first_24 ?_
    refine T_callVip (pc := 25) C [vi x1, vi 0] [vi v2] (fun o h9 hw => ct_X13_l σ x1 0 h1 (rngL rfl) hw o h9) kw_211 cm_X13_l rcm rfl rfl (Nat.le_of_ble_eq_true rfl) (by decide) (a' := 0) (b' := 0) ⟨rfl, rfl⟩ dX13_first_25 (fun v5 hv5 => ?_)
    refine T_iadd (pc := 28) C dX13_first_28 ?_
    refine T_iconst (pc := 29) C dX13_first_29 ?_
    refine T_isub (pc := 30) C dX13_first_30 ?_
    refine T_aload_n (pc := 31) C dX13_first_31 rfl 1 rfl ?_
    refine T_iload_n (pc := 32) C dX13_first_32 rfl 2 rfl ?_
    refine T_iconst (pc := 33) C dX13_first_33 ?_
    refine T_callVip (pc := 34) C [vi x1, vi 0] [vi ((v2 + v5) - 1)] (fun o h9 hw => ct_X13_l σ x1 0 h1 (rngL rfl) hw o h9) kw_211 cm_X13_l rcm rfl rfl (Nat.le_of_ble_eq_true rfl) (by decide) (a' := 0) (b' := 0) ⟨rfl, rfl⟩ dX13_first_34 (fun v6 hv6 => ?_)
    refine T_guard (fun g7 => ?_)
    refine T_guard (fun g8 => ?_)
    refine T_idiv (pc := 37) C dX13_first_37 g7 hv6.1 g8 ?_
    exact T_iret (pc := 38) (((v2 + v5) - 1) / v6) (fun h9 => h9) (rng_dv g7 g8) (nar_I _) (by decide) dX13_first_38
  · refine T_iconst (pc := 16) C dX13_first_16 ?_
    refine T_goto (pc := 17) C 38 dX13_first_17 rfl ?_
    exact T_iret (pc := 38) 0 (fun h9 => h9) (rngL rfl) (nar_I _) (by decide) dX13_first_38

abbrev rm_X13_cannotAddLine : Room := ⟨1, 0, 0, 22⟩
theorem cm_X13_cannotAddLine : cmV yX13_cannotAddLine cX13_cannotAddLine 5 (some .int) 4 := ⟨kw_30, kw_145, ⟨by decide +kernel, by decide +kernel, by decide +kernel⟩, kw_226, kw_227⟩
def f_X13_cannotAddLine (σ : Sm) (x1 : Int) (x2 : Int) (x3 : Int) (x4 : Int) : Option Int :=
  (f_X13_in x1 1 60).bind fun v1 => (if v1 = 0 then some 1 else (f_X13_in x2 0 59).bind fun v3 => (if v3 = 0 then some 1 else (f_X13_in x3 1 9).bind fun v5 => (if v5 = 0 then some 1 else (f_X13_in x4 1 20).bind fun v7 => (if v7 = 0 then some 1 else (if (σ 1 2) = 5 then some 2 else some 0)))))
theorem ct_X13_cannotAddLine {l : Launch} {cy : ClassId} {ad : Nat → Nat} {G : va_G} (σ : Sm) (x1 : Int) (x2 : Int) (x3 : Int) (x4 : Int) (h1 : rng x1) (h2 : rng x2) (h3 : rng x3) (h4 : rng x4) (hw : wfm σ) (o : Int) (h : f_X13_cannotAddLine σ x1 x2 x3 x4 = some o) : CtI l yX13_cannotAddLine cX13_cannotAddLine 5 (some .int) rm_X13_cannotAddLine (wlm cy ad) wfm G (tym cy) [.ref (ad 0), vi x1, vi x2, vi x3, vi x4] σ σ o := by
  refine ctI_of (by decide) (Nat.le_of_ble_eq_true rfl) hw (σ, o) o h (fun X Y v => EndI X Y cX13_cannotAddLine rm_X13_cannotAddLine .int (σ, v)) (fun _ _ h => h) (fun X A Q hX C => ?_)
  replace C : Cx X (Ym cy ad G A 5 Q) cX13_cannotAddLine RX13 (some .int) rm_X13_cannotAddLine (tym cy) := C
  show T X (Ym cy ad G A 5 Q) (fun v => EndI X (Ym cy ad G A 5 Q) cX13_cannotAddLine rm_X13_cannotAddLine .int (σ, v)) 0 0 0 [(0, .ref (ad 0)), (1, vi x1), (2, vi x2), (3, vi x3), (4, vi x4)] [] σ (f_X13_cannotAddLine σ x1 x2 x3 x4)
  unfold f_X13_cannotAddLine
  refine T_iload_n (pc := 0) C dX13_cannotAddLine_0 rfl 1 rfl ?_
  refine T_iconst (pc := 1) C dX13_cannotAddLine_1 ?_
  refine T_bipush (pc := 2) C dX13_cannotAddLine_2 (by decide) ?_
  refine T_callSip (pc := 4) C [vi x1, vi 1, vi 60] [] (fun o h9 hw => ct_X13_in σ x1 1 60 h1 (rngL rfl) (rngL rfl) hw o h9) kw_161 cm_X13_in rfl rfl (Nat.le_of_ble_eq_true rfl) (by decide) (a' := 0) (b' := 0) ⟨rfl, rfl⟩ dX13_cannotAddLine_4 (fun v1 hv1 => ?_)
  refine T_if_eq (pc := 7) C 41 dX13_cannotAddLine_7 rfl hv1.1 (fun c2 => ?_) (fun c2 => ?_)
  · refine T_iconst (pc := 41) C dX13_cannotAddLine_41 ?_
    exact T_iret (pc := 42) 1 (fun h9 => h9) (rngL rfl) (nar_I _) (by decide) dX13_cannotAddLine_42
  · refine T_iload_n (pc := 10) C dX13_cannotAddLine_10 rfl 2 rfl ?_
    refine T_iconst (pc := 11) C dX13_cannotAddLine_11 ?_
    refine T_bipush (pc := 12) C dX13_cannotAddLine_12 (by decide) ?_
    refine T_callSip (pc := 14) C [vi x2, vi 0, vi 59] [] (fun o h9 hw => ct_X13_in σ x2 0 59 h2 (rngL rfl) (rngL rfl) hw o h9) kw_161 cm_X13_in rfl rfl (Nat.le_of_ble_eq_true rfl) (by decide) (a' := 0) (b' := 0) ⟨rfl, rfl⟩ dX13_cannotAddLine_14 (fun v3 hv3 => ?_)
    refine T_if_eq (pc := 17) C 41 dX13_cannotAddLine_17 rfl hv3.1 (fun c4 => ?_) (fun c4 => ?_)
    · refine T_iconst (pc := 41) C dX13_cannotAddLine_41 ?_
      exact T_iret (pc := 42) 1 (fun h9 => h9) (rngL rfl) (nar_I _) (by decide) dX13_cannotAddLine_42
    · refine T_iload_n (pc := 20) C dX13_cannotAddLine_20 rfl 3 rfl ?_
      refine T_iconst (pc := 21) C dX13_cannotAddLine_21 ?_
      refine T_bipush (pc := 22) C dX13_cannotAddLine_22 (by decide) ?_
      refine T_callSip (pc := 24) C [vi x3, vi 1, vi 9] [] (fun o h9 hw => ct_X13_in σ x3 1 9 h3 (rngL rfl) (rngL rfl) hw o h9) kw_161 cm_X13_in rfl rfl (Nat.le_of_ble_eq_true rfl) (by decide) (a' := 0) (b' := 0) ⟨rfl, rfl⟩ dX13_cannotAddLine_24 (fun v5 hv5 => ?_)
      refine T_if_eq (pc := 27) C 41 dX13_cannotAddLine_27 rfl hv5.1 (fun c6 => ?_) (fun c6 => ?_)
      · refine T_iconst (pc := 41) C dX13_cannotAddLine_41 ?_
        exact T_iret (pc := 42) 1 (fun h9 => h9) (rngL rfl) (nar_I _) (by decide) dX13_cannotAddLine_42
      · refine T_iload (pc := 30) C dX13_cannotAddLine_30 4 rfl ?_
        refine T_iconst (pc := 32) C dX13_cannotAddLine_32 ?_
        refine T_bipush (pc := 33) C dX13_cannotAddLine_33 (by decide) ?_
        refine T_callSip (pc := 35) C [vi x4, vi 1, vi 20] [] (fun o h9 hw => ct_X13_in σ x4 1 20 h4 (rngL rfl) (rngL rfl) hw o h9) kw_161 cm_X13_in rfl rfl (Nat.le_of_ble_eq_true rfl) (by decide) (a' := 0) (b' := 0) ⟨rfl, rfl⟩ dX13_cannotAddLine_35 (fun v7 hv7 => ?_)
        refine T_if_ne (pc := 38) C 43 dX13_cannotAddLine_38 rfl hv7.1 (fun c8 => ?_) (fun c8 => ?_)
        · refine T_aload_n (pc := 43) C dX13_cannotAddLine_43 rfl 0 rfl ?_
          refine Tm_getA (pc := 44) C 0 1 (by decide) (fun _ => rfl) kw_152 rfl dX13_cannotAddLine_44 ?_
          refine T_iconst (pc := 47) C dX13_cannotAddLine_47 ?_
          refine Tm_iald (pc := 48) C 1 2 ⟨by decide, by decide⟩ ⟨by decide, by decide⟩ rfl dX13_cannotAddLine_48 (fun r9 => ?_)
          refine T_iconst (pc := 49) C dX13_cannotAddLine_49 ?_
          refine T_icmp_ne (pc := 50) C 57 dX13_cannotAddLine_50 rfl r9 (rngL rfl) (fun c10 => ?_) (fun c10 => ?_)
          · refine T_iconst (pc := 57) C dX13_cannotAddLine_57 ?_
            exact T_iret (pc := 58) 0 (fun h9 => h9) (rngL rfl) (nar_I _) (by decide) dX13_cannotAddLine_58
          · refine T_iconst (pc := 53) C dX13_cannotAddLine_53 ?_
            refine T_goto (pc := 54) C 58 dX13_cannotAddLine_54 rfl ?_
            exact T_iret (pc := 58) 2 (fun h9 => h9) (rngL rfl) (nar_I _) (by decide) dX13_cannotAddLine_58
        · refine T_iconst (pc := 41) C dX13_cannotAddLine_41 ?_
          exact T_iret (pc := 42) 1 (fun h9 => h9) (rngL rfl) (nar_I _) (by decide) dX13_cannotAddLine_42

abbrev rm_X13_addsLine : Room := ⟨1, 0, 0, 23⟩
theorem cm_X13_addsLine : cmV yX13_addsLine cX13_addsLine 6 (some .int) 4 := ⟨kw_31, kw_145, ⟨by decide +kernel, by decide +kernel, by decide +kernel⟩, kw_229, kw_230⟩
def f_X13_addsLine (σ : Sm) (x1 : Int) (x2 : Int) (x3 : Int) (x4 : Int) : Option (Sm × Int) :=
  bl (σ 1 2) fun v2 => (f_X13_setLine σ v2 0 x1).bind fun s3 => (f_X13_setLine s3 v2 1 x2).bind fun s4 => (f_X13_setLine s4 v2 2 x3).bind fun s5 => (f_X13_setLine s5 v2 4 x4).bind fun s6 => if rng ((s6 1 2) + 1) then bl (upm s6 1 2 ((s6 1 2) + 1)) fun s9 => some (s9, v2) else none
theorem ct_X13_addsLine {l : Launch} {cy : ClassId} {ad : Nat → Nat} {G : va_G} (σ : Sm) (x1 : Int) (x2 : Int) (x3 : Int) (x4 : Int) (h1 : rng x1) (h2 : rng x2) (h3 : rng x3) (h4 : rng x4) (hw : wfm σ) (o : Sm × Int) (h : f_X13_addsLine σ x1 x2 x3 x4 = some o) : CtI l yX13_addsLine cX13_addsLine 6 (some .int) rm_X13_addsLine (wlm cy ad) wfm G (tym cy) [.ref (ad 0), vi x1, vi x2, vi x3, vi x4] σ o.1 o.2 := by
  refine ctI_of (by decide) (Nat.le_of_ble_eq_true rfl) hw o o h (fun X Y w => EndI X Y cX13_addsLine rm_X13_addsLine .int w) (fun _ _ h => h) (fun X A Q hX C => ?_)
  replace C : Cx X (Ym cy ad G A 6 Q) cX13_addsLine RX13 (some .int) rm_X13_addsLine (tym cy) := C
  show T X (Ym cy ad G A 6 Q) (fun w => EndI X (Ym cy ad G A 6 Q) cX13_addsLine rm_X13_addsLine .int w) 0 0 0 [(0, .ref (ad 0)), (1, vi x1), (2, vi x2), (3, vi x3), (4, vi x4)] [] σ (f_X13_addsLine σ x1 x2 x3 x4)
  unfold f_X13_addsLine
  refine T_aload_n (pc := 0) C dX13_addsLine_0 rfl 0 rfl ?_
  refine Tm_getA (pc := 1) C 0 1 (by decide) (fun _ => rfl) kw_152 rfl dX13_addsLine_1 ?_
  refine T_iconst (pc := 4) C dX13_addsLine_4 ?_
  refine Tm_iald (pc := 5) C 1 2 ⟨by decide, by decide⟩ ⟨by decide, by decide⟩ rfl dX13_addsLine_5 (fun r1 => ?_)
  refine T_blV r1 (fun v2 hv2 => ?_)
  refine T_istore (pc := 6) (L' := [(5, vi v2), (0, .ref (ad 0)), (1, vi x1), (2, vi x2), (3, vi x3), (4, vi x4)]) C dX13_addsLine_6 (Nat.le_of_ble_eq_true rfl) rfl ?_
  refine T_aload_n (pc := 8) C dX13_addsLine_8 rfl 1 rfl ?_
  refine T_iload (pc := 9) C dX13_addsLine_9 0 rfl ?_
  refine T_iconst (pc := 11) C dX13_addsLine_11 ?_
  refine T_iload_n (pc := 12) C dX13_addsLine_12 rfl 2 rfl ?_
  refine T_callVv (pc := 13) C [vi v2, vi 0, vi x1] [] (fun o h9 hw => ct_X13_setLine σ v2 0 x1 hv2 (rngL rfl) h1 hw o h9) kw_228 cm_X13_setLine rcm rfl rfl (Nat.le_of_ble_eq_true rfl) (by decide) (a' := 0) (b' := 0) ⟨rfl, rfl⟩ dX13_addsLine_13 (fun s3 => ?_)
  refine T_aload_n (pc := 16) C dX13_addsLine_16 rfl 1 rfl ?_
  refine T_iload (pc := 17) C dX13_addsLine_17 0 rfl ?_
  refine T_iconst (pc := 19) C dX13_addsLine_19 ?_
  refine T_iload_n (pc := 20) C dX13_addsLine_20 rfl 3 rfl ?_
  refine T_callVv (pc := 21) C [vi v2, vi 1, vi x2] [] (fun o h9 hw => ct_X13_setLine s3 v2 1 x2 hv2 (rngL rfl) h2 hw o h9) kw_228 cm_X13_setLine rcm rfl rfl (Nat.le_of_ble_eq_true rfl) (by decide) (a' := 0) (b' := 0) ⟨rfl, rfl⟩ dX13_addsLine_21 (fun s4 => ?_)
  refine T_aload_n (pc := 24) C dX13_addsLine_24 rfl 1 rfl ?_
  refine T_iload (pc := 25) C dX13_addsLine_25 0 rfl ?_
  refine T_iconst (pc := 27) C dX13_addsLine_27 ?_
  refine T_iload_n (pc := 28) C dX13_addsLine_28 rfl 4 rfl ?_
  refine T_callVv (pc := 29) C [vi v2, vi 2, vi x3] [] (fun o h9 hw => ct_X13_setLine s4 v2 2 x3 hv2 (rngL rfl) h3 hw o h9) kw_228 cm_X13_setLine rcm rfl rfl (Nat.le_of_ble_eq_true rfl) (by decide) (a' := 0) (b' := 0) ⟨rfl, rfl⟩ dX13_addsLine_29 (fun s5 => ?_)
  refine T_aload_n (pc := 32) C dX13_addsLine_32 rfl 1 rfl ?_
  refine T_iload (pc := 33) C dX13_addsLine_33 0 rfl ?_
  refine T_iconst (pc := 35) C dX13_addsLine_35 ?_
  refine T_iload (pc := 36) C dX13_addsLine_36 5 rfl ?_
  refine T_callVv (pc := 38) C [vi v2, vi 4, vi x4] [] (fun o h9 hw => ct_X13_setLine s5 v2 4 x4 hv2 (rngL rfl) h4 hw o h9) kw_228 cm_X13_setLine rcm rfl rfl (Nat.le_of_ble_eq_true rfl) (by decide) (a' := 0) (b' := 0) ⟨rfl, rfl⟩ dX13_addsLine_38 (fun s6 => ?_)
  refine T_aload_n (pc := 41) C dX13_addsLine_41 rfl 1 rfl ?_
  refine Tm_getA (pc := 42) C 0 1 (by decide) (fun _ => rfl) kw_152 rfl dX13_addsLine_42 ?_
  refine T_iconst (pc := 45) C dX13_addsLine_45 ?_
  refine T_dup2 (pc := 46) C dX13_addsLine_46 rfl rfl ?_
  refine Tm_iald (pc := 47) C 1 2 ⟨by decide, by decide⟩ ⟨by decide, by decide⟩ rfl dX13_addsLine_47 (fun r7 => ?_)
  refine T_iconst (pc := 48) C dX13_addsLine_48 ?_
  refine T_iadd (pc := 49) C dX13_addsLine_49 ?_
  refine T_guard (fun g8 => ?_)
  refine Tm_iast (pc := 50) C 1 2 ⟨by decide, by decide⟩ ⟨by decide, by decide⟩ rfl g8 dX13_addsLine_50 ?_
  refine T_blS (fun s9 => ?_)
  refine T_iload (pc := 51) C dX13_addsLine_51 0 rfl ?_
  exact T_iret (pc := 53) (s9, v2) (fun h9 => h9) hv2 (nar_I _) (by decide) dX13_addsLine_53

abbrev rm_X13_addLine : Room := ⟨2, 0, 0, 48⟩
theorem cm_X13_addLine : cmV yX13_addLine cX13_addLine 6 (some .int) 4 := ⟨kw_32, kw_145, ⟨by decide +kernel, by decide +kernel, by decide +kernel⟩, kw_233, kw_234⟩
def f_X13_addLine (N : Nat) (σ : Sm) (x1 : Int) (x2 : Int) (x3 : Int) (x4 : Int) : Option (Sm × Int) :=
  (f_X13_begin N σ).bind fun s1 => (f_X13_cannotAddLine s1 x1 x2 x3 x4).bind fun v2 => (if v2 ≤ 0 then (f_X13_addsLine s1 x1 x2 x3 x4).bind fun v4 => (f_X13_commit N v4.1 v4.2).bind fun v5 => some (v5.1, v5.2) else (f_X13_fail s1 v2).bind fun v6 => some (v6.1, v6.2))
theorem ct_X13_addLine {l : Launch} {cy : ClassId} {ad : Nat → Nat} {G : va_G} (N : Nat) (σ : Sm) (x1 : Int) (x2 : Int) (x3 : Int) (x4 : Int) (h1 : rng x1) (h2 : rng x2) (h3 : rng x3) (h4 : rng x4) (hw : wfm σ) (o : Sm × Int) (h : f_X13_addLine N σ x1 x2 x3 x4 = some o) : CtI l yX13_addLine cX13_addLine 6 (some .int) rm_X13_addLine (wlm cy ad) wfm G (tym cy) [.ref (ad 0), vi x1, vi x2, vi x3, vi x4] σ o.1 o.2 := by
  refine ctI_of (by decide) (Nat.le_of_ble_eq_true rfl) hw o o h (fun X Y w => EndI X Y cX13_addLine rm_X13_addLine .int w) (fun _ _ h => h) (fun X A Q hX C => ?_)
  replace C : Cx X (Ym cy ad G A 6 Q) cX13_addLine RX13 (some .int) rm_X13_addLine (tym cy) := C
  show T X (Ym cy ad G A 6 Q) (fun w => EndI X (Ym cy ad G A 6 Q) cX13_addLine rm_X13_addLine .int w) 0 0 0 [(0, .ref (ad 0)), (1, vi x1), (2, vi x2), (3, vi x3), (4, vi x4)] [] σ (f_X13_addLine N σ x1 x2 x3 x4)
  unfold f_X13_addLine
  refine T_aload_n (pc := 0) C dX13_addLine_0 rfl 0 rfl ?_
  refine T_callVv (pc := 1) C [] [] (fun o h9 hw => ct_X13_begin N σ hw o h9) kw_177 cm_X13_begin rcm rfl rfl (Nat.le_of_ble_eq_true rfl) (by decide) (a' := 0) (b' := 0) ⟨rfl, rfl⟩ dX13_addLine_1 (fun s1 => ?_)
  refine T_aload_n (pc := 4) C dX13_addLine_4 rfl 0 rfl ?_
  refine T_iload_n (pc := 5) C dX13_addLine_5 rfl 1 rfl ?_
  refine T_iload_n (pc := 6) C dX13_addLine_6 rfl 2 rfl ?_
  refine T_iload_n (pc := 7) C dX13_addLine_7 rfl 3 rfl ?_
  refine T_iload (pc := 8) C dX13_addLine_8 4 rfl ?_
  refine T_callVip (pc := 10) C [vi x1, vi x2, vi x3, vi x4] [] (fun o h9 hw => ct_X13_cannotAddLine s1 x1 x2 x3 x4 h1 h2 h3 h4 hw o h9) kw_231 cm_X13_cannotAddLine rcm rfl rfl (Nat.le_of_ble_eq_true rfl) (by decide) (a' := 0) (b' := 0) ⟨rfl, rfl⟩ dX13_addLine_10 (fun v2 hv2 => ?_)
  refine T_istore (pc := 13) (L' := [(5, vi v2), (0, .ref (ad 0)), (1, vi x1), (2, vi x2), (3, vi x3), (4, vi x4)]) C dX13_addLine_13 (Nat.le_of_ble_eq_true rfl) rfl ?_
  refine T_iload (pc := 15) C dX13_addLine_15 0 rfl ?_
  refine T_if_le (pc := 17) C 29 dX13_addLine_17 rfl hv2.1 (fun c3 => ?_) (fun c3 => ?_)
  · refine T_aload_n (pc := 29) C dX13_addLine_29 rfl 1 rfl ?_
    refine T_aload_n (pc := 30) C dX13_addLine_30 rfl 1 rfl ?_
    refine T_iload_n (pc := 31) C dX13_addLine_31 rfl 2 rfl ?_
    refine T_iload_n (pc := 32) C dX13_addLine_32 rfl 3 rfl ?_
    refine T_iload_n (pc := 33) C dX13_addLine_33 rfl 4 rfl ?_
    refine T_iload (pc := 34) C dX13_addLine_34 5 rfl ?_
    refine T_callVi (pc := 36) C [vi x1, vi x2, vi x3, vi x4] [.ref (ad 0)] (fun o h9 hw => ct_X13_addsLine s1 x1 x2 x3 x4 h1 h2 h3 h4 hw o h9) kw_232 cm_X13_addsLine rcm rfl rfl (Nat.le_of_ble_eq_true rfl) (by decide) (a' := 0) (b' := 0) ⟨rfl, rfl⟩ dX13_addLine_36 (fun v4 hv4 => ?_)
    refine T_callVi (pc := 39) C [vi v4.2] [] (fun o h9 hw => ct_X13_commit N v4.1 v4.2 hv4.1 hw o h9) kw_180 cm_X13_commit rcm rfl rfl (Nat.le_of_ble_eq_true rfl) (by decide) (a' := 0) (b' := 0) ⟨rfl, rfl⟩ dX13_addLine_39 (fun v5 hv5 => ?_)
    exact T_iret (pc := 42) (v5.1, v5.2) (fun h9 => h9) hv5.1 (nar_I _) (by decide) dX13_addLine_42
  · refine T_aload_n (pc := 20) C dX13_addLine_20 rfl 1 rfl ?_
    refine T_iload (pc := 21) C dX13_addLine_21 0 rfl ?_
    refine T_callVi (pc := 23) C [vi v2] [] (fun o h9 hw => ct_X13_fail s1 v2 hv2.1 hw o h9) kw_181 cm_X13_fail rcm rfl rfl (Nat.le_of_ble_eq_true rfl) (by decide) (a' := 0) (b' := 0) ⟨rfl, rfl⟩ dX13_addLine_23 (fun v6 hv6 => ?_)
    refine T_goto (pc := 26) C 42 dX13_addLine_26 rfl ?_
    exact T_iret (pc := 42) (v6.1, v6.2) (fun h9 => h9) hv6.1 (nar_I _) (by decide) dX13_addLine_42

abbrev rm_X13_t : Room := ⟨0, 0, 0, 0⟩
theorem cm_X13_t : cmV yX13_t cX13_t 3 (some .int) 2 := ⟨kw_46, kw_145, ⟨by decide +kernel, by decide +kernel, by decide +kernel⟩, kw_235, kw_236⟩
def f_X13_t (σ : Sm) (x1 : Int) (x2 : Int) : Option Int :=
  if 0 ≤ ((212 + (8 * x1)) + x2) ∧ ((212 + (8 * x1)) + x2) < 340 then some (σ 1 ((212 + (8 * x1)) + x2).toNat) else none
theorem ct_X13_t {l : Launch} {cy : ClassId} {ad : Nat → Nat} {G : va_G} (σ : Sm) (x1 : Int) (x2 : Int) (h1 : rng x1) (h2 : rng x2) (hw : wfm σ) (o : Int) (h : f_X13_t σ x1 x2 = some o) : CtI l yX13_t cX13_t 3 (some .int) rm_X13_t (wlm cy ad) wfm G (tym cy) [.ref (ad 0), vi x1, vi x2] σ σ o := by
  refine ctI_of (by decide) (Nat.le_of_ble_eq_true rfl) hw (σ, o) o h (fun X Y v => EndI X Y cX13_t rm_X13_t .int (σ, v)) (fun _ _ h => h) (fun X A Q hX C => ?_)
  replace C : Cx X (Ym cy ad G A 3 Q) cX13_t RX13 (some .int) rm_X13_t (tym cy) := C
  show T X (Ym cy ad G A 3 Q) (fun v => EndI X (Ym cy ad G A 3 Q) cX13_t rm_X13_t .int (σ, v)) 0 0 0 [(0, .ref (ad 0)), (1, vi x1), (2, vi x2)] [] σ (f_X13_t σ x1 x2)
  unfold f_X13_t
  refine T_aload_n (pc := 0) C dX13_t_0 rfl 0 rfl ?_
  refine Tm_getA (pc := 1) C 0 1 (by decide) (fun _ => rfl) kw_152 rfl dX13_t_1 ?_
  refine T_sipush (pc := 4) C dX13_t_4 (by decide) ?_
  refine T_bipush (pc := 7) C dX13_t_7 (by decide) ?_
  refine T_iload_n (pc := 9) C dX13_t_9 rfl 1 rfl ?_
  refine T_imul (pc := 10) C dX13_t_10 ?_
  refine T_iadd (pc := 11) C dX13_t_11 ?_
  refine T_iload_n (pc := 12) C dX13_t_12 rfl 2 rfl ?_
  refine T_iadd (pc := 13) C dX13_t_13 ?_
  refine T_guard (fun g1 => ?_)
  refine Tm_iald (pc := 14) C 1 ((212 + (8 * x1)) + x2).toNat ⟨by decide, by decide⟩ g1 rfl dX13_t_14 (fun r2 => ?_)
  exact T_iret (pc := 15) (σ 1 ((212 + (8 * x1)) + x2).toNat) (fun h9 => h9) r2 (nar_I _) (by decide) dX13_t_15

abbrev rm_X13_ticketsOf : Room := ⟨1, 0, 0, 22⟩
theorem cm_X13_ticketsOf : cmV yX13_ticketsOf cX13_ticketsOf 4 (some .int) 1 := ⟨kw_33, kw_145, ⟨by decide +kernel, by decide +kernel, by decide +kernel⟩, kw_238, kw_239⟩
def f_X13_ticketsOf_4 (σ : Sm) (x1 : Int) : Nat → Int → Int → Option (Int)
  | 0, _, _ => none
  | n + 1, x2, x3 => (if (σ 1 3) ≤ x3 then some x2 else (f_X13_t σ x3 1).bind fun v16 => (if v16 = x1 then bl (x2 + 1) fun v20 => if rng v20 then f_X13_ticketsOf_4 σ x1 n v20 (x3 + 1) else none else bl (x2 + 0) fun v18 => if rng v18 then f_X13_ticketsOf_4 σ x1 n v18 (x3 + 1) else none))
theorem lp_X13_ticketsOf_4 {X : vjX} {A : Nat → Prop} {Q : State → Prop} {cy : ClassId} {ad : Nat → Nat} {G : va_G} (C : Cx X (Ym cy ad G A 4 Q) cX13_ticketsOf RX13 (some .int) rm_X13_ticketsOf (tym cy)) (σ : Sm) (x1 : Int) (h1 : rng x1) : ∀ (n : Nat) (x2 : Int) (x3 : Int) (h2 : rng x2) (h3 : rng x3), T X (Ym cy ad G A 4 Q) (fun (q : Int) => rng q → J X (Ym cy ad G A 4 Q) 0 0 38 [(2, vi q)] [] σ) 0 0 4 [(0, .ref (ad 0)), (1, vi x1), (2, vi x2), (3, vi x3)] [] σ (f_X13_ticketsOf_4 σ x1 n x2 x3) := by
  intro n
  induction n with
  | zero => intro x2 x3 h2 h3; exact T_none
  | succ n ih =>
    intro x2 x3 h2 h3
    rw [f_X13_ticketsOf_4]
    refine T_iload_n (pc := 4) C dX13_ticketsOf_4 rfl 3 rfl ?_
    refine T_aload_n (pc := 5) C dX13_ticketsOf_5 rfl 0 rfl ?_
    refine Tm_getA (pc := 6) C 0 1 (by decide) (fun _ => rfl) kw_152 rfl dX13_ticketsOf_6 ?_
    refine T_iconst (pc := 9) C dX13_ticketsOf_9 ?_
    refine Tm_iald (pc := 10) C 1 3 ⟨by decide, by decide⟩ ⟨by decide, by decide⟩ rfl dX13_ticketsOf_10 (fun r14 => ?_)
    refine T_icmp_ge (pc := 11) C 38 dX13_ticketsOf_11 rfl h3 r14 (fun c15 => ?_) (fun c15 => ?_)
    · refine T_sub (L' := [(2, vi x2)]) [2] rfl ?_
      exact T_exit (fun h9 => h9 h2)
    · refine T_iload_n (pc := 14) C dX13_ticketsOf_14 rfl 2 rfl ?_
      refine T_aload_n (pc := 15) C dX13_ticketsOf_15 rfl 0 rfl ?_
      refine T_iload_n (pc := 16) C dX13_ticketsOf_16 rfl 3 rfl ?_
      refine T_iconst (pc := 17) C dX13_ticketsOf_17 ?_
      refine T_callVip (pc := 18) C [vi x3, vi 1] [vi x2] (fun o h9 hw => ct_X13_t σ x3 1 h3 (rngL rfl) hw o h9) kw_237 cm_X13_t rcm rfl rfl (Nat.le_of_ble_eq_true rfl) (by decide) (a' := 0) (b' := 0) ⟨rfl, rfl⟩ dX13_ticketsOf_18 (fun v16 hv16 => ?_)
      refine T_iload_n (pc := 21) C dX13_ticketsOf_21 rfl 1 rfl ?_
      refine T_icmp_ne (pc := 22) C 29 dX13_ticketsOf_22 rfl hv16.1 h1 (fun c17 => ?_) (fun c17 => ?_)
      · refine T_iconst (pc := 29) C dX13_ticketsOf_29 ?_
        refine T_iadd (pc := 30) C dX13_ticketsOf_30 ?_
        refine T_blN (fun v18 => ?_)
        refine T_istore_n (pc := 31) (L' := [(2, vi v18), (0, .ref (ad 0)), (1, vi x1), (3, vi x3)]) C dX13_ticketsOf_31 rfl (Nat.le_of_ble_eq_true rfl) rfl ?_
        refine T_iinc (pc := 32) (L' := [(3, vi (x3 + 1)), (2, vi v18), (0, .ref (ad 0)), (1, vi x1)]) C dX13_ticketsOf_32 (Nat.le_of_ble_eq_true rfl) 3 rfl rfl ?_
        refine T_goto (pc := 35) C 4 dX13_ticketsOf_35 rfl ?_
        refine T_sub (L' := [(0, .ref (ad 0)), (1, vi x1), (2, vi v18), (3, vi (x3 + 1))]) [2, 3, 1, 0] rfl ?_
        refine T_guard (fun g19 => ?_)
        exact ih v18 (x3 + 1) g19 (rng_inc c15 h3 r14)
      · refine T_iconst (pc := 25) C dX13_ticketsOf_25 ?_
        refine T_goto (pc := 26) C 30 dX13_ticketsOf_26 rfl ?_
        refine T_iadd (pc := 30) C dX13_ticketsOf_30 ?_
        refine T_blN (fun v20 => ?_)
        refine T_istore_n (pc := 31) (L' := [(2, vi v20), (0, .ref (ad 0)), (1, vi x1), (3, vi x3)]) C dX13_ticketsOf_31 rfl (Nat.le_of_ble_eq_true rfl) rfl ?_
        refine T_iinc (pc := 32) (L' := [(3, vi (x3 + 1)), (2, vi v20), (0, .ref (ad 0)), (1, vi x1)]) C dX13_ticketsOf_32 (Nat.le_of_ble_eq_true rfl) 3 rfl rfl ?_
        refine T_goto (pc := 35) C 4 dX13_ticketsOf_35 rfl ?_
        refine T_sub (L' := [(0, .ref (ad 0)), (1, vi x1), (2, vi v20), (3, vi (x3 + 1))]) [2, 3, 1, 0] rfl ?_
        refine T_guard (fun g21 => ?_)
        exact ih v20 (x3 + 1) g21 (rng_inc c15 h3 r14)
def f_X13_ticketsOf (N : Nat) (σ : Sm) (x1 : Int) : Option Int :=
  (f_X13_ticketsOf_4 σ x1 N 0 0).bind fun q22 => some q22
theorem ct_X13_ticketsOf {l : Launch} {cy : ClassId} {ad : Nat → Nat} {G : va_G} (N : Nat) (σ : Sm) (x1 : Int) (h1 : rng x1) (hw : wfm σ) (o : Int) (h : f_X13_ticketsOf N σ x1 = some o) : CtI l yX13_ticketsOf cX13_ticketsOf 4 (some .int) rm_X13_ticketsOf (wlm cy ad) wfm G (tym cy) [.ref (ad 0), vi x1] σ σ o := by
  refine ctI_of (by decide) (Nat.le_of_ble_eq_true rfl) hw (σ, o) o h (fun X Y v => EndI X Y cX13_ticketsOf rm_X13_ticketsOf .int (σ, v)) (fun _ _ h => h) (fun X A Q hX C => ?_)
  replace C : Cx X (Ym cy ad G A 4 Q) cX13_ticketsOf RX13 (some .int) rm_X13_ticketsOf (tym cy) := C
  show T X (Ym cy ad G A 4 Q) (fun v => EndI X (Ym cy ad G A 4 Q) cX13_ticketsOf rm_X13_ticketsOf .int (σ, v)) 0 0 0 [(0, .ref (ad 0)), (1, vi x1)] [] σ (f_X13_ticketsOf N σ x1)
  unfold f_X13_ticketsOf
  refine T_iconst (pc := 0) C dX13_ticketsOf_0 ?_
  refine T_istore_n (pc := 1) (L' := [(2, vi 0), (0, .ref (ad 0)), (1, vi x1)]) C dX13_ticketsOf_1 rfl (Nat.le_of_ble_eq_true rfl) rfl ?_
  refine T_iconst (pc := 2) C dX13_ticketsOf_2 ?_
  refine T_istore_n (pc := 3) (L' := [(3, vi 0), (2, vi 0), (0, .ref (ad 0)), (1, vi x1)]) C dX13_ticketsOf_3 rfl (Nat.le_of_ble_eq_true rfl) rfl ?_
  refine T_sub (L' := [(0, .ref (ad 0)), (1, vi x1), (2, vi 0), (3, vi 0)]) [2, 3, 1, 0] rfl ?_
  refine T_loopE (lp_X13_ticketsOf_4 C σ x1 h1 N 0 0 (rngL rfl) (rngL rfl)) (fun q22 hq22 => ?_)
  refine T_iload_n (pc := 38) C dX13_ticketsOf_38 rfl 0 rfl ?_
  exact T_iret (pc := 39) q22 (fun h9 => h9) hq22 (nar_I _) (by decide) dX13_ticketsOf_39

abbrev rm_X13_cannotExtend : Room := ⟨2, 0, 0, 45⟩
theorem cm_X13_cannotExtend : cmV yX13_cannotExtend cX13_cannotExtend 3 (some .int) 2 := ⟨kw_34, kw_145, ⟨by decide +kernel, by decide +kernel, by decide +kernel⟩, kw_243, kw_244⟩
def f_X13_cannotExtend (N : Nat) (σ : Sm) (x1 : Int) (x2 : Int) : Option Int :=
  (f_X13_isLine σ x1).bind fun v1 => (if v1 = 0 then some 1 else (f_X13_isStop σ x2).bind fun v3 => (if v3 = 0 then some 1 else (f_X13_l σ x1 5).bind fun v5 => (if v5 = 6 then some 2 else (f_X13_ticketsOf N σ x1).bind fun v7 => (if v7 ≤ 0 then (f_X13_placeIn N σ x1 x2).bind fun v9 => (if v9 < 0 then some 0 else some 3) else some 2))))
theorem ct_X13_cannotExtend {l : Launch} {cy : ClassId} {ad : Nat → Nat} {G : va_G} (N : Nat) (σ : Sm) (x1 : Int) (x2 : Int) (h1 : rng x1) (h2 : rng x2) (hw : wfm σ) (o : Int) (h : f_X13_cannotExtend N σ x1 x2 = some o) : CtI l yX13_cannotExtend cX13_cannotExtend 3 (some .int) rm_X13_cannotExtend (wlm cy ad) wfm G (tym cy) [.ref (ad 0), vi x1, vi x2] σ σ o := by
  refine ctI_of (by decide) (Nat.le_of_ble_eq_true rfl) hw (σ, o) o h (fun X Y v => EndI X Y cX13_cannotExtend rm_X13_cannotExtend .int (σ, v)) (fun _ _ h => h) (fun X A Q hX C => ?_)
  replace C : Cx X (Ym cy ad G A 3 Q) cX13_cannotExtend RX13 (some .int) rm_X13_cannotExtend (tym cy) := C
  show T X (Ym cy ad G A 3 Q) (fun v => EndI X (Ym cy ad G A 3 Q) cX13_cannotExtend rm_X13_cannotExtend .int (σ, v)) 0 0 0 [(0, .ref (ad 0)), (1, vi x1), (2, vi x2)] [] σ (f_X13_cannotExtend N σ x1 x2)
  unfold f_X13_cannotExtend
  refine T_aload_n (pc := 0) C dX13_cannotExtend_0 rfl 0 rfl ?_
  refine T_iload_n (pc := 1) C dX13_cannotExtend_1 rfl 1 rfl ?_
  refine T_callVip (pc := 2) C [vi x1] [] (fun o h9 hw => ct_X13_isLine σ x1 h1 hw o h9) kw_240 cm_X13_isLine rcm rfl rfl (Nat.le_of_ble_eq_true rfl) (by decide) (a' := 0) (b' := 0) ⟨rfl, rfl⟩ dX13_cannotExtend_2 (fun v1 hv1 => ?_)
  refine T_if_eq (pc := 5) C 16 dX13_cannotExtend_5 rfl hv1.1 (fun c2 => ?_) (fun c2 => ?_)
  · refine T_iconst (pc := 16) C dX13_cannotExtend_16 ?_
    exact T_iret (pc := 17) 1 (fun h9 => h9) (rngL rfl) (nar_I _) (by decide) dX13_cannotExtend_17
  · refine T_aload_n (pc := 8) C dX13_cannotExtend_8 rfl 0 rfl ?_
    refine T_iload_n (pc := 9) C dX13_cannotExtend_9 rfl 2 rfl ?_
    refine T_callVip (pc := 10) C [vi x2] [] (fun o h9 hw => ct_X13_isStop σ x2 h2 hw o h9) kw_164 cm_X13_isStop rcm rfl rfl (Nat.le_of_ble_eq_true rfl) (by decide) (a' := 0) (b' := 0) ⟨rfl, rfl⟩ dX13_cannotExtend_10 (fun v3 hv3 => ?_)
    refine T_if_ne (pc := 13) C 18 dX13_cannotExtend_13 rfl hv3.1 (fun c4 => ?_) (fun c4 => ?_)
    · refine T_aload_n (pc := 18) C dX13_cannotExtend_18 rfl 0 rfl ?_
      refine T_iload_n (pc := 19) C dX13_cannotExtend_19 rfl 1 rfl ?_
      refine T_iconst (pc := 20) C dX13_cannotExtend_20 ?_
      refine T_callVip (pc := 21) C [vi x1, vi 5] [] (fun o h9 hw => ct_X13_l σ x1 5 h1 (rngL rfl) hw o h9) kw_211 cm_X13_l rcm rfl rfl (Nat.le_of_ble_eq_true rfl) (by decide) (a' := 0) (b' := 0) ⟨rfl, rfl⟩ dX13_cannotExtend_21 (fun v5 hv5 => ?_)
      refine T_bipush (pc := 24) C dX13_cannotExtend_24 (by decide) ?_
      refine T_icmp_eq (pc := 26) C 37 dX13_cannotExtend_26 rfl hv5.1 (rngL rfl) (fun c6 => ?_) (fun c6 => ?_)
      · refine T_iconst (pc := 37) C dX13_cannotExtend_37 ?_
        exact T_iret (pc := 38) 2 (fun h9 => h9) (rngL rfl) (nar_I _) (by decide) dX13_cannotExtend_38
      · refine T_aload_n (pc := 29) C dX13_cannotExtend_29 rfl 0 rfl ?_
        refine T_iload_n (pc := 30) C dX13_cannotExtend_30 rfl 1 rfl ?_
        refine T_callVip (pc := 31) C [vi x1] [] (fun o h9 hw => ct_X13_ticketsOf N σ x1 h1 hw o h9) kw_241 cm_X13_ticketsOf rcm rfl rfl (Nat.le_of_ble_eq_true rfl) (by decide) (a' := 0) (b' := 0) ⟨rfl, rfl⟩ dX13_cannotExtend_31 (fun v7 hv7 => ?_)
        refine T_if_le (pc := 34) C 39 dX13_cannotExtend_34 rfl hv7.1 (fun c8 => ?_) (fun c8 => ?_)
        · refine T_aload_n (pc := 39) C dX13_cannotExtend_39 rfl 0 rfl ?_
          refine T_iload_n (pc := 40) C dX13_cannotExtend_40 rfl 1 rfl ?_
          refine T_iload_n (pc := 41) C dX13_cannotExtend_41 rfl 2 rfl ?_
          refine T_callVip (pc := 42) C [vi x1, vi x2] [] (fun o h9 hw => ct_X13_placeIn N σ x1 x2 h1 h2 hw o h9) kw_242 cm_X13_placeIn rcm rfl rfl (Nat.le_of_ble_eq_true rfl) (by decide) (a' := 0) (b' := 0) ⟨rfl, rfl⟩ dX13_cannotExtend_42 (fun v9 hv9 => ?_)
          refine T_if_lt (pc := 45) C 52 dX13_cannotExtend_45 rfl hv9.1 (fun c10 => ?_) (fun c10 => ?_)
          · refine T_iconst (pc := 52) C dX13_cannotExtend_52 ?_
            exact T_iret (pc := 53) 0 (fun h9 => h9) (rngL rfl) (nar_I _) (by decide) dX13_cannotExtend_53
          · refine T_iconst (pc := 48) C dX13_cannotExtend_48 ?_
            refine T_goto (pc := 49) C 53 dX13_cannotExtend_49 rfl ?_
            exact T_iret (pc := 53) 3 (fun h9 => h9) (rngL rfl) (nar_I _) (by decide) dX13_cannotExtend_53
        · refine T_iconst (pc := 37) C dX13_cannotExtend_37 ?_
          exact T_iret (pc := 38) 2 (fun h9 => h9) (rngL rfl) (nar_I _) (by decide) dX13_cannotExtend_38
    · refine T_iconst (pc := 16) C dX13_cannotExtend_16 ?_
      exact T_iret (pc := 17) 1 (fun h9 => h9) (rngL rfl) (nar_I _) (by decide) dX13_cannotExtend_17

abbrev rm_X13_extend : Room := ⟨1, 0, 0, 23⟩
theorem cm_X13_extend : cmV yX13_extend cX13_extend 3 (some .int) 2 := ⟨kw_35, kw_145, ⟨by decide +kernel, by decide +kernel, by decide +kernel⟩, kw_245, kw_246⟩
def f_X13_extend (σ : Sm) (x1 : Int) (x2 : Int) : Option (Sm × Int) :=
  (f_X13_l σ x1 5).bind fun v1 => if rng (7 + v1) then (f_X13_setLine σ x1 (7 + v1) x2).bind fun s3 => (f_X13_l s3 x1 5).bind fun v4 => if rng (v4 + 1) then (f_X13_setLine s3 x1 5 (v4 + 1)).bind fun s6 => (f_X13_l s6 x1 5).bind fun v7 => some (s6, v7) else none else none
theorem ct_X13_extend {l : Launch} {cy : ClassId} {ad : Nat → Nat} {G : va_G} (σ : Sm) (x1 : Int) (x2 : Int) (h1 : rng x1) (h2 : rng x2) (hw : wfm σ) (o : Sm × Int) (h : f_X13_extend σ x1 x2 = some o) : CtI l yX13_extend cX13_extend 3 (some .int) rm_X13_extend (wlm cy ad) wfm G (tym cy) [.ref (ad 0), vi x1, vi x2] σ o.1 o.2 := by
  refine ctI_of (by decide) (Nat.le_of_ble_eq_true rfl) hw o o h (fun X Y w => EndI X Y cX13_extend rm_X13_extend .int w) (fun _ _ h => h) (fun X A Q hX C => ?_)
  replace C : Cx X (Ym cy ad G A 3 Q) cX13_extend RX13 (some .int) rm_X13_extend (tym cy) := C
  show T X (Ym cy ad G A 3 Q) (fun w => EndI X (Ym cy ad G A 3 Q) cX13_extend rm_X13_extend .int w) 0 0 0 [(0, .ref (ad 0)), (1, vi x1), (2, vi x2)] [] σ (f_X13_extend σ x1 x2)
  unfold f_X13_extend
  refine T_aload_n (pc := 0) C dX13_extend_0 rfl 0 rfl ?_
  refine T_iload_n (pc := 1) C dX13_extend_1 rfl 1 rfl ?_
  refine T_bipush (pc := 2) C dX13_extend_2 (by decide) ?_
  refine T_aload_n (pc := 4) C dX13_extend_4 rfl 0 rfl ?_
  refine T_iload_n (pc := 5) C dX13_extend_5 rfl 1 rfl ?_
  refine T_iconst (pc := 6) C dX13_extend_6 ?_
  refine T_callVip (pc := 7) C [vi x1, vi 5] [vi 7, vi x1, .ref (ad 0)] (fun o h9 hw => ct_X13_l σ x1 5 h1 (rngL rfl) hw o h9) kw_211 cm_X13_l rcm rfl rfl (Nat.le_of_ble_eq_true rfl) (by decide) (a' := 0) (b' := 0) ⟨rfl, rfl⟩ dX13_extend_7 (fun v1 hv1 => ?_)
  refine T_iadd (pc := 10) C dX13_extend_10 ?_
  refine T_iload_n (pc := 11) C dX13_extend_11 rfl 2 rfl ?_
  refine T_guard (fun g2 => ?_)
  refine T_callVv (pc := 12) C [vi x1, vi (7 + v1), vi x2] [] (fun o h9 hw => ct_X13_setLine σ x1 (7 + v1) x2 h1 g2 h2 hw o h9) kw_228 cm_X13_setLine rcm rfl rfl (Nat.le_of_ble_eq_true rfl) (by decide) (a' := 0) (b' := 0) ⟨rfl, rfl⟩ dX13_extend_12 (fun s3 => ?_)
  refine T_aload_n (pc := 15) C dX13_extend_15 rfl 0 rfl ?_
  refine T_iload_n (pc := 16) C dX13_extend_16 rfl 1 rfl ?_
  refine T_iconst (pc := 17) C dX13_extend_17 ?_
  refine T_aload_n (pc := 18) C dX13_extend_18 rfl 0 rfl ?_
  refine T_iload_n (pc := 19) C dX13_extend_19 rfl 1 rfl ?_
  refine T_iconst (pc := 20) C dX13_extend_20 ?_
  refine T_callVip (pc := 21) C [vi x1, vi 5] [vi 5, vi x1, .ref (ad 0)] (fun o h9 hw => ct_X13_l s3 x1 5 h1 (rngL rfl) hw o h9) kw_211 cm_X13_l rcm rfl rfl (Nat.le_of_ble_eq_true rfl) (by decide) (a' := 0) (b' := 0) ⟨rfl, rfl⟩ dX13_extend_21 (fun v4 hv4 => ?_)
  refine T_iconst (pc := 24) C dX13_extend_24 ?_
  refine T_iadd (pc := 25) C dX13_extend_25 ?_
  refine T_guard (fun g5 => ?_)
  refine T_callVv (pc := 26) C [vi x1, vi 5, vi (v4 + 1)] [] (fun o h9 hw => ct_X13_setLine s3 x1 5 (v4 + 1) h1 (rngL rfl) g5 hw o h9) kw_228 cm_X13_setLine rcm rfl rfl (Nat.le_of_ble_eq_true rfl) (by decide) (a' := 0) (b' := 0) ⟨rfl, rfl⟩ dX13_extend_26 (fun s6 => ?_)
  refine T_aload_n (pc := 29) C dX13_extend_29 rfl 0 rfl ?_
  refine T_iload_n (pc := 30) C dX13_extend_30 rfl 1 rfl ?_
  refine T_iconst (pc := 31) C dX13_extend_31 ?_
  refine T_callVip (pc := 32) C [vi x1, vi 5] [] (fun o h9 hw => ct_X13_l s6 x1 5 h1 (rngL rfl) hw o h9) kw_211 cm_X13_l rcm rfl rfl (Nat.le_of_ble_eq_true rfl) (by decide) (a' := 0) (b' := 0) ⟨rfl, rfl⟩ dX13_extend_32 (fun v7 hv7 => ?_)
  exact T_iret (pc := 35) (s6, v7) (fun h9 => h9) hv7.1 (nar_I _) (by decide) dX13_extend_35

abbrev rm_X13_extendLine : Room := ⟨3, 0, 0, 67⟩
theorem cm_X13_extendLine : cmV yX13_extendLine cX13_extendLine 4 (some .int) 2 := ⟨kw_36, kw_145, ⟨by decide +kernel, by decide +kernel, by decide +kernel⟩, kw_249, kw_250⟩
def f_X13_extendLine (N : Nat) (σ : Sm) (x1 : Int) (x2 : Int) : Option (Sm × Int) :=
  (f_X13_begin N σ).bind fun s1 => (f_X13_cannotExtend N s1 x1 x2).bind fun v2 => (if v2 ≤ 0 then (f_X13_extend s1 x1 x2).bind fun v4 => (f_X13_commit N v4.1 v4.2).bind fun v5 => some (v5.1, v5.2) else (f_X13_fail s1 v2).bind fun v6 => some (v6.1, v6.2))
theorem ct_X13_extendLine {l : Launch} {cy : ClassId} {ad : Nat → Nat} {G : va_G} (N : Nat) (σ : Sm) (x1 : Int) (x2 : Int) (h1 : rng x1) (h2 : rng x2) (hw : wfm σ) (o : Sm × Int) (h : f_X13_extendLine N σ x1 x2 = some o) : CtI l yX13_extendLine cX13_extendLine 4 (some .int) rm_X13_extendLine (wlm cy ad) wfm G (tym cy) [.ref (ad 0), vi x1, vi x2] σ o.1 o.2 := by
  refine ctI_of (by decide) (Nat.le_of_ble_eq_true rfl) hw o o h (fun X Y w => EndI X Y cX13_extendLine rm_X13_extendLine .int w) (fun _ _ h => h) (fun X A Q hX C => ?_)
  replace C : Cx X (Ym cy ad G A 4 Q) cX13_extendLine RX13 (some .int) rm_X13_extendLine (tym cy) := C
  show T X (Ym cy ad G A 4 Q) (fun w => EndI X (Ym cy ad G A 4 Q) cX13_extendLine rm_X13_extendLine .int w) 0 0 0 [(0, .ref (ad 0)), (1, vi x1), (2, vi x2)] [] σ (f_X13_extendLine N σ x1 x2)
  unfold f_X13_extendLine
  refine T_aload_n (pc := 0) C dX13_extendLine_0 rfl 0 rfl ?_
  refine T_callVv (pc := 1) C [] [] (fun o h9 hw => ct_X13_begin N σ hw o h9) kw_177 cm_X13_begin rcm rfl rfl (Nat.le_of_ble_eq_true rfl) (by decide) (a' := 0) (b' := 0) ⟨rfl, rfl⟩ dX13_extendLine_1 (fun s1 => ?_)
  refine T_aload_n (pc := 4) C dX13_extendLine_4 rfl 0 rfl ?_
  refine T_iload_n (pc := 5) C dX13_extendLine_5 rfl 1 rfl ?_
  refine T_iload_n (pc := 6) C dX13_extendLine_6 rfl 2 rfl ?_
  refine T_callVip (pc := 7) C [vi x1, vi x2] [] (fun o h9 hw => ct_X13_cannotExtend N s1 x1 x2 h1 h2 hw o h9) kw_247 cm_X13_cannotExtend rcm rfl rfl (Nat.le_of_ble_eq_true rfl) (by decide) (a' := 0) (b' := 0) ⟨rfl, rfl⟩ dX13_extendLine_7 (fun v2 hv2 => ?_)
  refine T_istore_n (pc := 10) (L' := [(3, vi v2), (0, .ref (ad 0)), (1, vi x1), (2, vi x2)]) C dX13_extendLine_10 rfl (Nat.le_of_ble_eq_true rfl) rfl ?_
  refine T_iload_n (pc := 11) C dX13_extendLine_11 rfl 0 rfl ?_
  refine T_if_le (pc := 12) C 23 dX13_extendLine_12 rfl hv2.1 (fun c3 => ?_) (fun c3 => ?_)
  · refine T_aload_n (pc := 23) C dX13_extendLine_23 rfl 1 rfl ?_
    refine T_aload_n (pc := 24) C dX13_extendLine_24 rfl 1 rfl ?_
    refine T_iload_n (pc := 25) C dX13_extendLine_25 rfl 2 rfl ?_
    refine T_iload_n (pc := 26) C dX13_extendLine_26 rfl 3 rfl ?_
    refine T_callVi (pc := 27) C [vi x1, vi x2] [.ref (ad 0)] (fun o h9 hw => ct_X13_extend s1 x1 x2 h1 h2 hw o h9) kw_248 cm_X13_extend rcm rfl rfl (Nat.le_of_ble_eq_true rfl) (by decide) (a' := 0) (b' := 0) ⟨rfl, rfl⟩ dX13_extendLine_27 (fun v4 hv4 => ?_)
    refine T_callVi (pc := 30) C [vi v4.2] [] (fun o h9 hw => ct_X13_commit N v4.1 v4.2 hv4.1 hw o h9) kw_180 cm_X13_commit rcm rfl rfl (Nat.le_of_ble_eq_true rfl) (by decide) (a' := 0) (b' := 0) ⟨rfl, rfl⟩ dX13_extendLine_30 (fun v5 hv5 => ?_)
    exact T_iret (pc := 33) (v5.1, v5.2) (fun h9 => h9) hv5.1 (nar_I _) (by decide) dX13_extendLine_33
  · refine T_aload_n (pc := 15) C dX13_extendLine_15 rfl 1 rfl ?_
    refine T_iload_n (pc := 16) C dX13_extendLine_16 rfl 0 rfl ?_
    refine T_callVi (pc := 17) C [vi v2] [] (fun o h9 hw => ct_X13_fail s1 v2 hv2.1 hw o h9) kw_181 cm_X13_fail rcm rfl rfl (Nat.le_of_ble_eq_true rfl) (by decide) (a' := 0) (b' := 0) ⟨rfl, rfl⟩ dX13_extendLine_17 (fun v6 hv6 => ?_)
    refine T_goto (pc := 20) C 33 dX13_extendLine_20 rfl ?_
    exact T_iret (pc := 33) (v6.1, v6.2) (fun h9 => h9) hv6.1 (nar_I _) (by decide) dX13_extendLine_33

abbrev rm_X13_cannotShorten : Room := ⟨2, 0, 0, 45⟩
theorem cm_X13_cannotShorten : cmV yX13_cannotShorten cX13_cannotShorten 2 (some .int) 1 := ⟨kw_37, kw_145, ⟨by decide +kernel, by decide +kernel, by decide +kernel⟩, kw_251, kw_252⟩
def f_X13_cannotShorten (N : Nat) (σ : Sm) (x1 : Int) : Option Int :=
  (f_X13_isLine σ x1).bind fun v1 => (if v1 = 0 then some 1 else (f_X13_l σ x1 5).bind fun v3 => (if v3 = 0 then some 2 else (f_X13_ticketsOf N σ x1).bind fun v5 => (if v5 ≤ 0 then some 0 else some 3)))
theorem ct_X13_cannotShorten {l : Launch} {cy : ClassId} {ad : Nat → Nat} {G : va_G} (N : Nat) (σ : Sm) (x1 : Int) (h1 : rng x1) (hw : wfm σ) (o : Int) (h : f_X13_cannotShorten N σ x1 = some o) : CtI l yX13_cannotShorten cX13_cannotShorten 2 (some .int) rm_X13_cannotShorten (wlm cy ad) wfm G (tym cy) [.ref (ad 0), vi x1] σ σ o := by
  refine ctI_of (by decide) (Nat.le_of_ble_eq_true rfl) hw (σ, o) o h (fun X Y v => EndI X Y cX13_cannotShorten rm_X13_cannotShorten .int (σ, v)) (fun _ _ h => h) (fun X A Q hX C => ?_)
  replace C : Cx X (Ym cy ad G A 2 Q) cX13_cannotShorten RX13 (some .int) rm_X13_cannotShorten (tym cy) := C
  show T X (Ym cy ad G A 2 Q) (fun v => EndI X (Ym cy ad G A 2 Q) cX13_cannotShorten rm_X13_cannotShorten .int (σ, v)) 0 0 0 [(0, .ref (ad 0)), (1, vi x1)] [] σ (f_X13_cannotShorten N σ x1)
  unfold f_X13_cannotShorten
  refine T_aload_n (pc := 0) C dX13_cannotShorten_0 rfl 0 rfl ?_
  refine T_iload_n (pc := 1) C dX13_cannotShorten_1 rfl 1 rfl ?_
  refine T_callVip (pc := 2) C [vi x1] [] (fun o h9 hw => ct_X13_isLine σ x1 h1 hw o h9) kw_240 cm_X13_isLine rcm rfl rfl (Nat.le_of_ble_eq_true rfl) (by decide) (a' := 0) (b' := 0) ⟨rfl, rfl⟩ dX13_cannotShorten_2 (fun v1 hv1 => ?_)
  refine T_if_ne (pc := 5) C 12 dX13_cannotShorten_5 rfl hv1.1 (fun c2 => ?_) (fun c2 => ?_)
  · refine T_aload_n (pc := 12) C dX13_cannotShorten_12 rfl 0 rfl ?_
    refine T_iload_n (pc := 13) C dX13_cannotShorten_13 rfl 1 rfl ?_
    refine T_iconst (pc := 14) C dX13_cannotShorten_14 ?_
    refine T_callVip (pc := 15) C [vi x1, vi 5] [] (fun o h9 hw => ct_X13_l σ x1 5 h1 (rngL rfl) hw o h9) kw_211 cm_X13_l rcm rfl rfl (Nat.le_of_ble_eq_true rfl) (by decide) (a' := 0) (b' := 0) ⟨rfl, rfl⟩ dX13_cannotShorten_15 (fun v3 hv3 => ?_)
    refine T_if_ne (pc := 18) C 25 dX13_cannotShorten_18 rfl hv3.1 (fun c4 => ?_) (fun c4 => ?_)
    · refine T_aload_n (pc := 25) C dX13_cannotShorten_25 rfl 0 rfl ?_
      refine T_iload_n (pc := 26) C dX13_cannotShorten_26 rfl 1 rfl ?_
      refine T_callVip (pc := 27) C [vi x1] [] (fun o h9 hw => ct_X13_ticketsOf N σ x1 h1 hw o h9) kw_241 cm_X13_ticketsOf rcm rfl rfl (Nat.le_of_ble_eq_true rfl) (by decide) (a' := 0) (b' := 0) ⟨rfl, rfl⟩ dX13_cannotShorten_27 (fun v5 hv5 => ?_)
      refine T_if_le (pc := 30) C 37 dX13_cannotShorten_30 rfl hv5.1 (fun c6 => ?_) (fun c6 => ?_)
      · refine T_iconst (pc := 37) C dX13_cannotShorten_37 ?_
        exact T_iret (pc := 38) 0 (fun h9 => h9) (rngL rfl) (nar_I _) (by decide) dX13_cannotShorten_38
      · refine T_iconst (pc := 33) C dX13_cannotShorten_33 ?_
        refine T_goto (pc := 34) C 38 dX13_cannotShorten_34 rfl ?_
        exact T_iret (pc := 38) 3 (fun h9 => h9) (rngL rfl) (nar_I _) (by decide) dX13_cannotShorten_38
    · refine T_iconst (pc := 21) C dX13_cannotShorten_21 ?_
      refine T_goto (pc := 22) C 38 dX13_cannotShorten_22 rfl ?_
      exact T_iret (pc := 38) 2 (fun h9 => h9) (rngL rfl) (nar_I _) (by decide) dX13_cannotShorten_38
  · refine T_iconst (pc := 8) C dX13_cannotShorten_8 ?_
    refine T_goto (pc := 9) C 38 dX13_cannotShorten_9 rfl ?_
    exact T_iret (pc := 38) 1 (fun h9 => h9) (rngL rfl) (nar_I _) (by decide) dX13_cannotShorten_38

abbrev rm_X13_shorten : Room := ⟨1, 0, 0, 23⟩
theorem cm_X13_shorten : cmV yX13_shorten cX13_shorten 4 (some .int) 1 := ⟨kw_38, kw_145, ⟨by decide +kernel, by decide +kernel, by decide +kernel⟩, kw_253, kw_254⟩
def f_X13_shorten (σ : Sm) (x1 : Int) : Option (Sm × Int) :=
  (f_X13_l σ x1 5).bind fun v1 => bl (v1 - 1) fun v2 => if rng (7 + v2) then (f_X13_l σ x1 (7 + v2)).bind fun v4 => (f_X13_setLine σ x1 (7 + v2) 0).bind fun s5 => if rng v2 then (f_X13_setLine s5 x1 5 v2).bind fun s7 => some (s7, v4) else none else none
theorem ct_X13_shorten {l : Launch} {cy : ClassId} {ad : Nat → Nat} {G : va_G} (σ : Sm) (x1 : Int) (h1 : rng x1) (hw : wfm σ) (o : Sm × Int) (h : f_X13_shorten σ x1 = some o) : CtI l yX13_shorten cX13_shorten 4 (some .int) rm_X13_shorten (wlm cy ad) wfm G (tym cy) [.ref (ad 0), vi x1] σ o.1 o.2 := by
  refine ctI_of (by decide) (Nat.le_of_ble_eq_true rfl) hw o o h (fun X Y w => EndI X Y cX13_shorten rm_X13_shorten .int w) (fun _ _ h => h) (fun X A Q hX C => ?_)
  replace C : Cx X (Ym cy ad G A 4 Q) cX13_shorten RX13 (some .int) rm_X13_shorten (tym cy) := C
  show T X (Ym cy ad G A 4 Q) (fun w => EndI X (Ym cy ad G A 4 Q) cX13_shorten rm_X13_shorten .int w) 0 0 0 [(0, .ref (ad 0)), (1, vi x1)] [] σ (f_X13_shorten σ x1)
  unfold f_X13_shorten
  refine T_aload_n (pc := 0) C dX13_shorten_0 rfl 0 rfl ?_
  refine T_iload_n (pc := 1) C dX13_shorten_1 rfl 1 rfl ?_
  refine T_iconst (pc := 2) C dX13_shorten_2 ?_
  refine T_callVip (pc := 3) C [vi x1, vi 5] [] (fun o h9 hw => ct_X13_l σ x1 5 h1 (rngL rfl) hw o h9) kw_211 cm_X13_l rcm rfl rfl (Nat.le_of_ble_eq_true rfl) (by decide) (a' := 0) (b' := 0) ⟨rfl, rfl⟩ dX13_shorten_3 (fun v1 hv1 => ?_)
  refine T_iconst (pc := 6) C dX13_shorten_6 ?_
  refine T_isub (pc := 7) C dX13_shorten_7 ?_
  refine T_blN (fun v2 => ?_)
  refine T_istore_n (pc := 8) (L' := [(2, vi v2), (0, .ref (ad 0)), (1, vi x1)]) C dX13_shorten_8 rfl (Nat.le_of_ble_eq_true rfl) rfl ?_
  refine T_aload_n (pc := 9) C dX13_shorten_9 rfl 1 rfl ?_
  refine T_iload_n (pc := 10) C dX13_shorten_10 rfl 2 rfl ?_
  refine T_bipush (pc := 11) C dX13_shorten_11 (by decide) ?_
  refine T_iload_n (pc := 13) C dX13_shorten_13 rfl 0 rfl ?_
  refine T_iadd (pc := 14) C dX13_shorten_14 ?_
  refine T_guard (fun g3 => ?_)
  refine T_callVip (pc := 15) C [vi x1, vi (7 + v2)] [] (fun o h9 hw => ct_X13_l σ x1 (7 + v2) h1 g3 hw o h9) kw_211 cm_X13_l rcm rfl rfl (Nat.le_of_ble_eq_true rfl) (by decide) (a' := 0) (b' := 0) ⟨rfl, rfl⟩ dX13_shorten_15 (fun v4 hv4 => ?_)
  refine T_istore_n (pc := 18) (L' := [(3, vi v4), (2, vi v2), (0, .ref (ad 0)), (1, vi x1)]) C dX13_shorten_18 rfl (Nat.le_of_ble_eq_true rfl) rfl ?_
  refine T_aload_n (pc := 19) C dX13_shorten_19 rfl 2 rfl ?_
  refine T_iload_n (pc := 20) C dX13_shorten_20 rfl 3 rfl ?_
  refine T_bipush (pc := 21) C dX13_shorten_21 (by decide) ?_
  refine T_iload_n (pc := 23) C dX13_shorten_23 rfl 1 rfl ?_
  refine T_iadd (pc := 24) C dX13_shorten_24 ?_
  refine T_iconst (pc := 25) C dX13_shorten_25 ?_
  refine T_callVv (pc := 26) C [vi x1, vi (7 + v2), vi 0] [] (fun o h9 hw => ct_X13_setLine σ x1 (7 + v2) 0 h1 g3 (rngL rfl) hw o h9) kw_228 cm_X13_setLine rcm rfl rfl (Nat.le_of_ble_eq_true rfl) (by decide) (a' := 0) (b' := 0) ⟨rfl, rfl⟩ dX13_shorten_26 (fun s5 => ?_)
  refine T_aload_n (pc := 29) C dX13_shorten_29 rfl 2 rfl ?_
  refine T_iload_n (pc := 30) C dX13_shorten_30 rfl 3 rfl ?_
  refine T_iconst (pc := 31) C dX13_shorten_31 ?_
  refine T_iload_n (pc := 32) C dX13_shorten_32 rfl 1 rfl ?_
  refine T_guard (fun g6 => ?_)
  refine T_callVv (pc := 33) C [vi x1, vi 5, vi v2] [] (fun o h9 hw => ct_X13_setLine s5 x1 5 v2 h1 (rngL rfl) g6 hw o h9) kw_228 cm_X13_setLine rcm rfl rfl (Nat.le_of_ble_eq_true rfl) (by decide) (a' := 0) (b' := 0) ⟨rfl, rfl⟩ dX13_shorten_33 (fun s7 => ?_)
  refine T_iload_n (pc := 36) C dX13_shorten_36 rfl 0 rfl ?_
  exact T_iret (pc := 37) (s7, v4) (fun h9 => h9) hv4.1 (nar_I _) (by decide) dX13_shorten_37

abbrev rm_X13_shortenLine : Room := ⟨3, 0, 0, 66⟩
theorem cm_X13_shortenLine : cmV yX13_shortenLine cX13_shortenLine 3 (some .int) 1 := ⟨kw_39, kw_145, ⟨by decide +kernel, by decide +kernel, by decide +kernel⟩, kw_257, kw_258⟩
def f_X13_shortenLine (N : Nat) (σ : Sm) (x1 : Int) : Option (Sm × Int) :=
  (f_X13_begin N σ).bind fun s1 => (f_X13_cannotShorten N s1 x1).bind fun v2 => (if v2 ≤ 0 then (f_X13_shorten s1 x1).bind fun v4 => (f_X13_commit N v4.1 v4.2).bind fun v5 => some (v5.1, v5.2) else (f_X13_fail s1 v2).bind fun v6 => some (v6.1, v6.2))
theorem ct_X13_shortenLine {l : Launch} {cy : ClassId} {ad : Nat → Nat} {G : va_G} (N : Nat) (σ : Sm) (x1 : Int) (h1 : rng x1) (hw : wfm σ) (o : Sm × Int) (h : f_X13_shortenLine N σ x1 = some o) : CtI l yX13_shortenLine cX13_shortenLine 3 (some .int) rm_X13_shortenLine (wlm cy ad) wfm G (tym cy) [.ref (ad 0), vi x1] σ o.1 o.2 := by
  refine ctI_of (by decide) (Nat.le_of_ble_eq_true rfl) hw o o h (fun X Y w => EndI X Y cX13_shortenLine rm_X13_shortenLine .int w) (fun _ _ h => h) (fun X A Q hX C => ?_)
  replace C : Cx X (Ym cy ad G A 3 Q) cX13_shortenLine RX13 (some .int) rm_X13_shortenLine (tym cy) := C
  show T X (Ym cy ad G A 3 Q) (fun w => EndI X (Ym cy ad G A 3 Q) cX13_shortenLine rm_X13_shortenLine .int w) 0 0 0 [(0, .ref (ad 0)), (1, vi x1)] [] σ (f_X13_shortenLine N σ x1)
  unfold f_X13_shortenLine
  refine T_aload_n (pc := 0) C dX13_shortenLine_0 rfl 0 rfl ?_
  refine T_callVv (pc := 1) C [] [] (fun o h9 hw => ct_X13_begin N σ hw o h9) kw_177 cm_X13_begin rcm rfl rfl (Nat.le_of_ble_eq_true rfl) (by decide) (a' := 0) (b' := 0) ⟨rfl, rfl⟩ dX13_shortenLine_1 (fun s1 => ?_)
  refine T_aload_n (pc := 4) C dX13_shortenLine_4 rfl 0 rfl ?_
  refine T_iload_n (pc := 5) C dX13_shortenLine_5 rfl 1 rfl ?_
  refine T_callVip (pc := 6) C [vi x1] [] (fun o h9 hw => ct_X13_cannotShorten N s1 x1 h1 hw o h9) kw_255 cm_X13_cannotShorten rcm rfl rfl (Nat.le_of_ble_eq_true rfl) (by decide) (a' := 0) (b' := 0) ⟨rfl, rfl⟩ dX13_shortenLine_6 (fun v2 hv2 => ?_)
  refine T_istore_n (pc := 9) (L' := [(2, vi v2), (0, .ref (ad 0)), (1, vi x1)]) C dX13_shortenLine_9 rfl (Nat.le_of_ble_eq_true rfl) rfl ?_
  refine T_iload_n (pc := 10) C dX13_shortenLine_10 rfl 0 rfl ?_
  refine T_if_le (pc := 11) C 22 dX13_shortenLine_11 rfl hv2.1 (fun c3 => ?_) (fun c3 => ?_)
  · refine T_aload_n (pc := 22) C dX13_shortenLine_22 rfl 1 rfl ?_
    refine T_aload_n (pc := 23) C dX13_shortenLine_23 rfl 1 rfl ?_
    refine T_iload_n (pc := 24) C dX13_shortenLine_24 rfl 2 rfl ?_
    refine T_callVi (pc := 25) C [vi x1] [.ref (ad 0)] (fun o h9 hw => ct_X13_shorten s1 x1 h1 hw o h9) kw_256 cm_X13_shorten rcm rfl rfl (Nat.le_of_ble_eq_true rfl) (by decide) (a' := 0) (b' := 0) ⟨rfl, rfl⟩ dX13_shortenLine_25 (fun v4 hv4 => ?_)
    refine T_callVi (pc := 28) C [vi v4.2] [] (fun o h9 hw => ct_X13_commit N v4.1 v4.2 hv4.1 hw o h9) kw_180 cm_X13_commit rcm rfl rfl (Nat.le_of_ble_eq_true rfl) (by decide) (a' := 0) (b' := 0) ⟨rfl, rfl⟩ dX13_shortenLine_28 (fun v5 hv5 => ?_)
    exact T_iret (pc := 31) (v5.1, v5.2) (fun h9 => h9) hv5.1 (nar_I _) (by decide) dX13_shortenLine_31
  · refine T_aload_n (pc := 14) C dX13_shortenLine_14 rfl 1 rfl ?_
    refine T_iload_n (pc := 15) C dX13_shortenLine_15 rfl 0 rfl ?_
    refine T_callVi (pc := 16) C [vi v2] [] (fun o h9 hw => ct_X13_fail s1 v2 hv2.1 hw o h9) kw_181 cm_X13_fail rcm rfl rfl (Nat.le_of_ble_eq_true rfl) (by decide) (a' := 0) (b' := 0) ⟨rfl, rfl⟩ dX13_shortenLine_16 (fun v6 hv6 => ?_)
    refine T_goto (pc := 19) C 31 dX13_shortenLine_19 rfl ?_
    exact T_iret (pc := 31) (v6.1, v6.2) (fun h9 => h9) hv6.1 (nar_I _) (by decide) dX13_shortenLine_31

abbrev rm_X13_flag : Room := ⟨0, 0, 0, 0⟩
theorem cm_X13_flag : cmV yX13_flag cX13_flag 4 (some .int) 2 := ⟨kw_40, kw_145, ⟨by decide +kernel, by decide +kernel, by decide +kernel⟩, kw_259, kw_260⟩
def f_X13_flag (σ : Sm) (x1 : Int) (x2 : Int) : Option (Sm × Int) :=
  if 0 ≤ x1 ∧ x1 < 340 then bl (σ 1 x1.toNat) fun v3 => (if x2 = 0 then bl (upm σ 1 x1.toNat 0) fun s5 => some (s5, v3) else bl (upm σ 1 x1.toNat 1) fun s6 => some (s6, v3)) else none
theorem ct_X13_flag {l : Launch} {cy : ClassId} {ad : Nat → Nat} {G : va_G} (σ : Sm) (x1 : Int) (x2 : Int) (h1 : rng x1) (h2 : bit x2) (hw : wfm σ) (o : Sm × Int) (h : f_X13_flag σ x1 x2 = some o) : CtI l yX13_flag cX13_flag 4 (some .int) rm_X13_flag (wlm cy ad) wfm G (tym cy) [.ref (ad 0), vi x1, vi x2] σ o.1 o.2 := by
  refine ctI_of (by decide) (Nat.le_of_ble_eq_true rfl) hw o o h (fun X Y w => EndI X Y cX13_flag rm_X13_flag .int w) (fun _ _ h => h) (fun X A Q hX C => ?_)
  replace C : Cx X (Ym cy ad G A 4 Q) cX13_flag RX13 (some .int) rm_X13_flag (tym cy) := C
  show T X (Ym cy ad G A 4 Q) (fun w => EndI X (Ym cy ad G A 4 Q) cX13_flag rm_X13_flag .int w) 0 0 0 [(0, .ref (ad 0)), (1, vi x1), (2, vi x2)] [] σ (f_X13_flag σ x1 x2)
  unfold f_X13_flag
  refine T_aload_n (pc := 0) C dX13_flag_0 rfl 0 rfl ?_
  refine Tm_getA (pc := 1) C 0 1 (by decide) (fun _ => rfl) kw_152 rfl dX13_flag_1 ?_
  refine T_iload_n (pc := 4) C dX13_flag_4 rfl 1 rfl ?_
  refine T_guard (fun g1 => ?_)
  refine Tm_iald (pc := 5) C 1 x1.toNat ⟨by decide, by decide⟩ g1 rfl dX13_flag_5 (fun r2 => ?_)
  refine T_blV r2 (fun v3 hv3 => ?_)
  refine T_istore_n (pc := 6) (L' := [(3, vi v3), (0, .ref (ad 0)), (1, vi x1), (2, vi x2)]) C dX13_flag_6 rfl (Nat.le_of_ble_eq_true rfl) rfl ?_
  refine T_aload_n (pc := 7) C dX13_flag_7 rfl 1 rfl ?_
  refine Tm_getA (pc := 8) C 0 1 (by decide) (fun _ => rfl) kw_152 rfl dX13_flag_8 ?_
  refine T_iload_n (pc := 11) C dX13_flag_11 rfl 2 rfl ?_
  refine T_iload_n (pc := 12) C dX13_flag_12 rfl 3 rfl ?_
  refine T_if_eq (pc := 13) C 20 dX13_flag_13 rfl (bit_rng h2) (fun c4 => ?_) (fun c4 => ?_)
  · refine T_iconst (pc := 20) C dX13_flag_20 ?_
    refine Tm_iast (pc := 21) C 1 x1.toNat ⟨by decide, by decide⟩ g1 rfl (rngL rfl) dX13_flag_21 ?_
    refine T_blS (fun s5 => ?_)
    refine T_iload_n (pc := 22) C dX13_flag_22 rfl 0 rfl ?_
    exact T_iret (pc := 23) (s5, v3) (fun h9 => h9) hv3 (nar_I _) (by decide) dX13_flag_23
  · refine T_iconst (pc := 16) C dX13_flag_16 ?_
    refine T_goto (pc := 17) C 21 dX13_flag_17 rfl ?_
    refine Tm_iast (pc := 21) C 1 x1.toNat ⟨by decide, by decide⟩ g1 rfl (rngL rfl) dX13_flag_21 ?_
    refine T_blS (fun s6 => ?_)
    refine T_iload_n (pc := 22) C dX13_flag_22 rfl 0 rfl ?_
    exact T_iret (pc := 23) (s6, v3) (fun h9 => h9) hv3 (nar_I _) (by decide) dX13_flag_23

abbrev rm_X13_setRain : Room := ⟨2, 0, 0, 46⟩
theorem cm_X13_setRain : cmV yX13_setRain cX13_setRain 2 (some .boolean) 1 := ⟨kw_41, kw_145, ⟨by decide +kernel, by decide +kernel, by decide +kernel⟩, kw_262, kw_263⟩
def f_X13_setRain (N : Nat) (σ : Sm) (x1 : Int) : Option (Sm × Int) :=
  (f_X13_begin N σ).bind fun s1 => (f_X13_flag s1 6 x1).bind fun v2 => (f_X13_commit N v2.1 v2.2).bind fun v3 => (if v3.2 = 1 then some (v3.1, 1) else some (v3.1, 0))
theorem ct_X13_setRain {l : Launch} {cy : ClassId} {ad : Nat → Nat} {G : va_G} (N : Nat) (σ : Sm) (x1 : Int) (h1 : bit x1) (hw : wfm σ) (o : Sm × Int) (h : f_X13_setRain N σ x1 = some o) : CtI l yX13_setRain cX13_setRain 2 (some .boolean) rm_X13_setRain (wlm cy ad) wfm G (tym cy) [.ref (ad 0), vi x1] σ o.1 o.2 := by
  refine ctI_of (by decide) (Nat.le_of_ble_eq_true rfl) hw o o h (fun X Y w => EndI X Y cX13_setRain rm_X13_setRain .boolean w) (fun _ _ h => h) (fun X A Q hX C => ?_)
  replace C : Cx X (Ym cy ad G A 2 Q) cX13_setRain RX13 (some .boolean) rm_X13_setRain (tym cy) := C
  show T X (Ym cy ad G A 2 Q) (fun w => EndI X (Ym cy ad G A 2 Q) cX13_setRain rm_X13_setRain .boolean w) 0 0 0 [(0, .ref (ad 0)), (1, vi x1)] [] σ (f_X13_setRain N σ x1)
  unfold f_X13_setRain
  refine T_aload_n (pc := 0) C dX13_setRain_0 rfl 0 rfl ?_
  refine T_callVv (pc := 1) C [] [] (fun o h9 hw => ct_X13_begin N σ hw o h9) kw_177 cm_X13_begin rcm rfl rfl (Nat.le_of_ble_eq_true rfl) (by decide) (a' := 0) (b' := 0) ⟨rfl, rfl⟩ dX13_setRain_1 (fun s1 => ?_)
  refine T_aload_n (pc := 4) C dX13_setRain_4 rfl 0 rfl ?_
  refine T_aload_n (pc := 5) C dX13_setRain_5 rfl 0 rfl ?_
  refine T_bipush (pc := 6) C dX13_setRain_6 (by decide) ?_
  refine T_iload_n (pc := 8) C dX13_setRain_8 rfl 1 rfl ?_
  refine T_callVi (pc := 9) C [vi 6, vi x1] [.ref (ad 0)] (fun o h9 hw => ct_X13_flag s1 6 x1 (rngL rfl) h1 hw o h9) kw_261 cm_X13_flag rcm rfl rfl (Nat.le_of_ble_eq_true rfl) (by decide) (a' := 0) (b' := 0) ⟨rfl, rfl⟩ dX13_setRain_9 (fun v2 hv2 => ?_)
  refine T_callVi (pc := 12) C [vi v2.2] [] (fun o h9 hw => ct_X13_commit N v2.1 v2.2 hv2.1 hw o h9) kw_180 cm_X13_commit rcm rfl rfl (Nat.le_of_ble_eq_true rfl) (by decide) (a' := 0) (b' := 0) ⟨rfl, rfl⟩ dX13_setRain_12 (fun v3 hv3 => ?_)
  refine T_iconst (pc := 15) C dX13_setRain_15 ?_
  refine T_icmp_ne (pc := 16) C 23 dX13_setRain_16 rfl hv3.1 (rngL rfl) (fun c4 => ?_) (fun c4 => ?_)
  · refine T_iconst (pc := 23) C dX13_setRain_23 ?_
    exact T_iret (pc := 24) (v3.1, 0) (fun h9 => h9) (rngL rfl) (nar_Z (Or.inl rfl)) (by decide) dX13_setRain_24
  · refine T_iconst (pc := 19) C dX13_setRain_19 ?_
    refine T_goto (pc := 20) C 24 dX13_setRain_20 rfl ?_
    exact T_iret (pc := 24) (v3.1, 1) (fun h9 => h9) (rngL rfl) (nar_Z (Or.inr rfl)) (by decide) dX13_setRain_24

abbrev rm_X13_delays : Room := ⟨1, 0, 0, 23⟩
theorem cm_X13_delays : cmV yX13_delays cX13_delays 4 (some .int) 2 := ⟨kw_42, kw_145, ⟨by decide +kernel, by decide +kernel, by decide +kernel⟩, kw_264, kw_265⟩
def f_X13_delays (σ : Sm) (x1 : Int) (x2 : Int) : Option (Sm × Int) :=
  (f_X13_l σ x1 3).bind fun v1 => (f_X13_setLine σ x1 3 x2).bind fun s2 => some (s2, v1)
theorem ct_X13_delays {l : Launch} {cy : ClassId} {ad : Nat → Nat} {G : va_G} (σ : Sm) (x1 : Int) (x2 : Int) (h1 : rng x1) (h2 : rng x2) (hw : wfm σ) (o : Sm × Int) (h : f_X13_delays σ x1 x2 = some o) : CtI l yX13_delays cX13_delays 4 (some .int) rm_X13_delays (wlm cy ad) wfm G (tym cy) [.ref (ad 0), vi x1, vi x2] σ o.1 o.2 := by
  refine ctI_of (by decide) (Nat.le_of_ble_eq_true rfl) hw o o h (fun X Y w => EndI X Y cX13_delays rm_X13_delays .int w) (fun _ _ h => h) (fun X A Q hX C => ?_)
  replace C : Cx X (Ym cy ad G A 4 Q) cX13_delays RX13 (some .int) rm_X13_delays (tym cy) := C
  show T X (Ym cy ad G A 4 Q) (fun w => EndI X (Ym cy ad G A 4 Q) cX13_delays rm_X13_delays .int w) 0 0 0 [(0, .ref (ad 0)), (1, vi x1), (2, vi x2)] [] σ (f_X13_delays σ x1 x2)
  unfold f_X13_delays
  refine T_aload_n (pc := 0) C dX13_delays_0 rfl 0 rfl ?_
  refine T_iload_n (pc := 1) C dX13_delays_1 rfl 1 rfl ?_
  refine T_iconst (pc := 2) C dX13_delays_2 ?_
  refine T_callVip (pc := 3) C [vi x1, vi 3] [] (fun o h9 hw => ct_X13_l σ x1 3 h1 (rngL rfl) hw o h9) kw_211 cm_X13_l rcm rfl rfl (Nat.le_of_ble_eq_true rfl) (by decide) (a' := 0) (b' := 0) ⟨rfl, rfl⟩ dX13_delays_3 (fun v1 hv1 => ?_)
  refine T_istore_n (pc := 6) (L' := [(3, vi v1), (0, .ref (ad 0)), (1, vi x1), (2, vi x2)]) C dX13_delays_6 rfl (Nat.le_of_ble_eq_true rfl) rfl ?_
  refine T_aload_n (pc := 7) C dX13_delays_7 rfl 1 rfl ?_
  refine T_iload_n (pc := 8) C dX13_delays_8 rfl 2 rfl ?_
  refine T_iconst (pc := 9) C dX13_delays_9 ?_
  refine T_iload_n (pc := 10) C dX13_delays_10 rfl 3 rfl ?_
  refine T_callVv (pc := 11) C [vi x1, vi 3, vi x2] [] (fun o h9 hw => ct_X13_setLine σ x1 3 x2 h1 (rngL rfl) h2 hw o h9) kw_228 cm_X13_setLine rcm rfl rfl (Nat.le_of_ble_eq_true rfl) (by decide) (a' := 0) (b' := 0) ⟨rfl, rfl⟩ dX13_delays_11 (fun s2 => ?_)
  refine T_iload_n (pc := 14) C dX13_delays_14 rfl 0 rfl ?_
  exact T_iret (pc := 15) (s2, v1) (fun h9 => h9) hv1.1 (nar_I _) (by decide) dX13_delays_15

abbrev rm_X13_setRainDelay : Room := ⟨2, 0, 0, 46⟩
theorem cm_X13_setRainDelay : cmV yX13_setRainDelay cX13_setRainDelay 4 (some .int) 2 := ⟨kw_43, kw_145, ⟨by decide +kernel, by decide +kernel, by decide +kernel⟩, kw_267, kw_268⟩
def f_X13_setRainDelay (N : Nat) (σ : Sm) (x1 : Int) (x2 : Int) : Option (Sm × Int) :=
  (f_X13_begin N σ).bind fun s1 => (f_X13_isLine s1 x1).bind fun v2 => (if v2 = 0 then (f_X13_fail s1 1).bind fun v12 => some (v12.1, v12.2) else (f_X13_in x2 0 5).bind fun v4 => (if v4 = 0 then (f_X13_fail s1 2).bind fun v10 => some (v10.1, v10.2) else (f_X13_delays s1 x1 x2).bind fun v7 => (f_X13_commit N v7.1 v7.2).bind fun v8 => some (v8.1, v8.2)))
theorem ct_X13_setRainDelay {l : Launch} {cy : ClassId} {ad : Nat → Nat} {G : va_G} (N : Nat) (σ : Sm) (x1 : Int) (x2 : Int) (h1 : rng x1) (h2 : rng x2) (hw : wfm σ) (o : Sm × Int) (h : f_X13_setRainDelay N σ x1 x2 = some o) : CtI l yX13_setRainDelay cX13_setRainDelay 4 (some .int) rm_X13_setRainDelay (wlm cy ad) wfm G (tym cy) [.ref (ad 0), vi x1, vi x2] σ o.1 o.2 := by
  refine ctI_of (by decide) (Nat.le_of_ble_eq_true rfl) hw o o h (fun X Y w => EndI X Y cX13_setRainDelay rm_X13_setRainDelay .int w) (fun _ _ h => h) (fun X A Q hX C => ?_)
  replace C : Cx X (Ym cy ad G A 4 Q) cX13_setRainDelay RX13 (some .int) rm_X13_setRainDelay (tym cy) := C
  show T X (Ym cy ad G A 4 Q) (fun w => EndI X (Ym cy ad G A 4 Q) cX13_setRainDelay rm_X13_setRainDelay .int w) 0 0 0 [(0, .ref (ad 0)), (1, vi x1), (2, vi x2)] [] σ (f_X13_setRainDelay N σ x1 x2)
  unfold f_X13_setRainDelay
  refine T_aload_n (pc := 0) C dX13_setRainDelay_0 rfl 0 rfl ?_
  refine T_callVv (pc := 1) C [] [] (fun o h9 hw => ct_X13_begin N σ hw o h9) kw_177 cm_X13_begin rcm rfl rfl (Nat.le_of_ble_eq_true rfl) (by decide) (a' := 0) (b' := 0) ⟨rfl, rfl⟩ dX13_setRainDelay_1 (fun s1 => ?_)
  refine T_aload_n (pc := 4) C dX13_setRainDelay_4 rfl 0 rfl ?_
  refine T_iload_n (pc := 5) C dX13_setRainDelay_5 rfl 1 rfl ?_
  refine T_callVip (pc := 6) C [vi x1] [] (fun o h9 hw => ct_X13_isLine s1 x1 h1 hw o h9) kw_240 cm_X13_isLine rcm rfl rfl (Nat.le_of_ble_eq_true rfl) (by decide) (a' := 0) (b' := 0) ⟨rfl, rfl⟩ dX13_setRainDelay_6 (fun v2 hv2 => ?_)
  refine T_if_ne (pc := 9) C 16 dX13_setRainDelay_9 rfl hv2.1 (fun c3 => ?_) (fun c3 => ?_)
  · refine T_iload_n (pc := 16) C dX13_setRainDelay_16 rfl 2 rfl ?_
    refine T_iconst (pc := 17) C dX13_setRainDelay_17 ?_
    refine T_iconst (pc := 18) C dX13_setRainDelay_18 ?_
    refine T_callSip (pc := 19) C [vi x2, vi 0, vi 5] [] (fun o h9 hw => ct_X13_in s1 x2 0 5 h2 (rngL rfl) (rngL rfl) hw o h9) kw_161 cm_X13_in rfl rfl (Nat.le_of_ble_eq_true rfl) (by decide) (a' := 0) (b' := 0) ⟨rfl, rfl⟩ dX13_setRainDelay_19 (fun v4 hv4 => ?_)
    refine T_if_ne (pc := 22) C 29 dX13_setRainDelay_22 rfl hv4.1 (fun c5 => ?_) (fun c5 => ?_)
    · refine T_iconst (pc := 29) C dX13_setRainDelay_29 ?_
      refine T_istore_n (pc := 30) (L' := [(3, vi 0), (0, .ref (ad 0)), (1, vi x1), (2, vi x2)]) C dX13_setRainDelay_30 rfl (Nat.le_of_ble_eq_true rfl) rfl ?_
      refine T_iload_n (pc := 31) C dX13_setRainDelay_31 rfl 0 rfl ?_
      refine T_if_le_t (pc := 32) C 43 dX13_setRainDelay_32 rfl (rngL rfl) (by decide) ?_
      refine T_aload_n (pc := 43) C dX13_setRainDelay_43 rfl 1 rfl ?_
      refine T_aload_n (pc := 44) C dX13_setRainDelay_44 rfl 1 rfl ?_
      refine T_iload_n (pc := 45) C dX13_setRainDelay_45 rfl 2 rfl ?_
      refine T_iload_n (pc := 46) C dX13_setRainDelay_46 rfl 3 rfl ?_
      refine T_callVi (pc := 47) C [vi x1, vi x2] [.ref (ad 0)] (fun o h9 hw => ct_X13_delays s1 x1 x2 h1 h2 hw o h9) kw_266 cm_X13_delays rcm rfl rfl (Nat.le_of_ble_eq_true rfl) (by decide) (a' := 0) (b' := 0) ⟨rfl, rfl⟩ dX13_setRainDelay_47 (fun v7 hv7 => ?_)
      refine T_callVi (pc := 50) C [vi v7.2] [] (fun o h9 hw => ct_X13_commit N v7.1 v7.2 hv7.1 hw o h9) kw_180 cm_X13_commit rcm rfl rfl (Nat.le_of_ble_eq_true rfl) (by decide) (a' := 0) (b' := 0) ⟨rfl, rfl⟩ dX13_setRainDelay_50 (fun v8 hv8 => ?_)
      exact T_iret (pc := 53) (v8.1, v8.2) (fun h9 => h9) hv8.1 (nar_I _) (by decide) dX13_setRainDelay_53
    · refine T_iconst (pc := 25) C dX13_setRainDelay_25 ?_
      refine T_goto (pc := 26) C 30 dX13_setRainDelay_26 rfl ?_
      refine T_istore_n (pc := 30) (L' := [(3, vi 2), (0, .ref (ad 0)), (1, vi x1), (2, vi x2)]) C dX13_setRainDelay_30 rfl (Nat.le_of_ble_eq_true rfl) rfl ?_
      refine T_iload_n (pc := 31) C dX13_setRainDelay_31 rfl 0 rfl ?_
      refine T_if_le_f (pc := 32) C 43 dX13_setRainDelay_32 rfl (rngL rfl) (by decide) ?_
      refine T_aload_n (pc := 35) C dX13_setRainDelay_35 rfl 1 rfl ?_
      refine T_iload_n (pc := 36) C dX13_setRainDelay_36 rfl 0 rfl ?_
      refine T_callVi (pc := 37) C [vi 2] [] (fun o h9 hw => ct_X13_fail s1 2 (rngL rfl) hw o h9) kw_181 cm_X13_fail rcm rfl rfl (Nat.le_of_ble_eq_true rfl) (by decide) (a' := 0) (b' := 0) ⟨rfl, rfl⟩ dX13_setRainDelay_37 (fun v10 hv10 => ?_)
      refine T_goto (pc := 40) C 53 dX13_setRainDelay_40 rfl ?_
      exact T_iret (pc := 53) (v10.1, v10.2) (fun h9 => h9) hv10.1 (nar_I _) (by decide) dX13_setRainDelay_53
  · refine T_iconst (pc := 12) C dX13_setRainDelay_12 ?_
    refine T_goto (pc := 13) C 30 dX13_setRainDelay_13 rfl ?_
    refine T_istore_n (pc := 30) (L' := [(3, vi 1), (0, .ref (ad 0)), (1, vi x1), (2, vi x2)]) C dX13_setRainDelay_30 rfl (Nat.le_of_ble_eq_true rfl) rfl ?_
    refine T_iload_n (pc := 31) C dX13_setRainDelay_31 rfl 0 rfl ?_
    refine T_if_le_f (pc := 32) C 43 dX13_setRainDelay_32 rfl (rngL rfl) (by decide) ?_
    refine T_aload_n (pc := 35) C dX13_setRainDelay_35 rfl 1 rfl ?_
    refine T_iload_n (pc := 36) C dX13_setRainDelay_36 rfl 0 rfl ?_
    refine T_callVi (pc := 37) C [vi 1] [] (fun o h9 hw => ct_X13_fail s1 1 (rngL rfl) hw o h9) kw_181 cm_X13_fail rcm rfl rfl (Nat.le_of_ble_eq_true rfl) (by decide) (a' := 0) (b' := 0) ⟨rfl, rfl⟩ dX13_setRainDelay_37 (fun v12 hv12 => ?_)
    refine T_goto (pc := 40) C 53 dX13_setRainDelay_40 rfl ?_
    exact T_iret (pc := 53) (v12.1, v12.2) (fun h9 => h9) hv12.1 (nar_I _) (by decide) dX13_setRainDelay_53

abbrev rm_X13_setClosed : Room := ⟨2, 0, 0, 46⟩
theorem cm_X13_setClosed : cmV yX13_setClosed cX13_setClosed 3 (some .boolean) 2 := ⟨kw_44, kw_145, ⟨by decide +kernel, by decide +kernel, by decide +kernel⟩, kw_269, kw_270⟩
def f_X13_setClosed (N : Nat) (σ : Sm) (x1 : Int) (x2 : Int) : Option (Sm × Int) :=
  (f_X13_begin N σ).bind fun s1 => (f_X13_isStop s1 x1).bind fun v2 => (if v2 = 0 then (f_X13_fail s1 1).bind fun v4 => (if v4.2 = 1 then some (v4.1, 1) else some (v4.1, 0)) else if rng ((12 + (2 * x1)) + 1) then (f_X13_flag s1 ((12 + (2 * x1)) + 1) x2).bind fun v7 => (f_X13_commit N v7.1 v7.2).bind fun v8 => (if v8.2 = 1 then some (v8.1, 1) else some (v8.1, 0)) else none)
theorem ct_X13_setClosed {l : Launch} {cy : ClassId} {ad : Nat → Nat} {G : va_G} (N : Nat) (σ : Sm) (x1 : Int) (x2 : Int) (h1 : rng x1) (h2 : bit x2) (hw : wfm σ) (o : Sm × Int) (h : f_X13_setClosed N σ x1 x2 = some o) : CtI l yX13_setClosed cX13_setClosed 3 (some .boolean) rm_X13_setClosed (wlm cy ad) wfm G (tym cy) [.ref (ad 0), vi x1, vi x2] σ o.1 o.2 := by
  refine ctI_of (by decide) (Nat.le_of_ble_eq_true rfl) hw o o h (fun X Y w => EndI X Y cX13_setClosed rm_X13_setClosed .boolean w) (fun _ _ h => h) (fun X A Q hX C => ?_)
  replace C : Cx X (Ym cy ad G A 3 Q) cX13_setClosed RX13 (some .boolean) rm_X13_setClosed (tym cy) := C
  show T X (Ym cy ad G A 3 Q) (fun w => EndI X (Ym cy ad G A 3 Q) cX13_setClosed rm_X13_setClosed .boolean w) 0 0 0 [(0, .ref (ad 0)), (1, vi x1), (2, vi x2)] [] σ (f_X13_setClosed N σ x1 x2)
  unfold f_X13_setClosed
  refine T_aload_n (pc := 0) C dX13_setClosed_0 rfl 0 rfl ?_
  refine T_callVv (pc := 1) C [] [] (fun o h9 hw => ct_X13_begin N σ hw o h9) kw_177 cm_X13_begin rcm rfl rfl (Nat.le_of_ble_eq_true rfl) (by decide) (a' := 0) (b' := 0) ⟨rfl, rfl⟩ dX13_setClosed_1 (fun s1 => ?_)
  refine T_aload_n (pc := 4) C dX13_setClosed_4 rfl 0 rfl ?_
  refine T_iload_n (pc := 5) C dX13_setClosed_5 rfl 1 rfl ?_
  refine T_callVip (pc := 6) C [vi x1] [] (fun o h9 hw => ct_X13_isStop s1 x1 h1 hw o h9) kw_164 cm_X13_isStop rcm rfl rfl (Nat.le_of_ble_eq_true rfl) (by decide) (a' := 0) (b' := 0) ⟨rfl, rfl⟩ dX13_setClosed_6 (fun v2 hv2 => ?_)
  refine T_if_eq (pc := 9) C 41 dX13_setClosed_9 rfl hv2.1 (fun c3 => ?_) (fun c3 => ?_)
  · refine T_aload_n (pc := 41) C dX13_setClosed_41 rfl 0 rfl ?_
    refine T_iconst (pc := 42) C dX13_setClosed_42 ?_
    refine T_callVi (pc := 43) C [vi 1] [] (fun o h9 hw => ct_X13_fail s1 1 (rngL rfl) hw o h9) kw_181 cm_X13_fail rcm rfl rfl (Nat.le_of_ble_eq_true rfl) (by decide) (a' := 0) (b' := 0) ⟨rfl, rfl⟩ dX13_setClosed_43 (fun v4 hv4 => ?_)
    refine T_iconst (pc := 46) C dX13_setClosed_46 ?_
    refine T_icmp_ne (pc := 47) C 54 dX13_setClosed_47 rfl hv4.1 (rngL rfl) (fun c5 => ?_) (fun c5 => ?_)
    · refine T_iconst (pc := 54) C dX13_setClosed_54 ?_
      exact T_iret (pc := 55) (v4.1, 0) (fun h9 => h9) (rngL rfl) (nar_Z (Or.inl rfl)) (by decide) dX13_setClosed_55
    · refine T_iconst (pc := 50) C dX13_setClosed_50 ?_
      refine T_goto (pc := 51) C 55 dX13_setClosed_51 rfl ?_
      exact T_iret (pc := 55) (v4.1, 1) (fun h9 => h9) (rngL rfl) (nar_Z (Or.inr rfl)) (by decide) dX13_setClosed_55
  · refine T_aload_n (pc := 12) C dX13_setClosed_12 rfl 0 rfl ?_
    refine T_aload_n (pc := 13) C dX13_setClosed_13 rfl 0 rfl ?_
    refine T_bipush (pc := 14) C dX13_setClosed_14 (by decide) ?_
    refine T_iconst (pc := 16) C dX13_setClosed_16 ?_
    refine T_iload_n (pc := 17) C dX13_setClosed_17 rfl 1 rfl ?_
    refine T_imul (pc := 18) C dX13_setClosed_18 ?_
    refine T_iadd (pc := 19) C dX13_setClosed_19 ?_
    refine T_iconst (pc := 20) C dX13_setClosed_20 ?_
    refine T_iadd (pc := 21) C dX13_setClosed_21 ?_
    refine T_iload_n (pc := 22) C dX13_setClosed_22 rfl 2 rfl ?_
    refine T_guard (fun g6 => ?_)
    refine T_callVi (pc := 23) C [vi ((12 + (2 * x1)) + 1), vi x2] [.ref (ad 0)] (fun o h9 hw => ct_X13_flag s1 ((12 + (2 * x1)) + 1) x2 g6 h2 hw o h9) kw_261 cm_X13_flag rcm rfl rfl (Nat.le_of_ble_eq_true rfl) (by decide) (a' := 0) (b' := 0) ⟨rfl, rfl⟩ dX13_setClosed_23 (fun v7 hv7 => ?_)
    refine T_callVi (pc := 26) C [vi v7.2] [] (fun o h9 hw => ct_X13_commit N v7.1 v7.2 hv7.1 hw o h9) kw_180 cm_X13_commit rcm rfl rfl (Nat.le_of_ble_eq_true rfl) (by decide) (a' := 0) (b' := 0) ⟨rfl, rfl⟩ dX13_setClosed_26 (fun v8 hv8 => ?_)
    refine T_iconst (pc := 29) C dX13_setClosed_29 ?_
    refine T_icmp_ne (pc := 30) C 37 dX13_setClosed_30 rfl hv8.1 (rngL rfl) (fun c9 => ?_) (fun c9 => ?_)
    · refine T_iconst (pc := 37) C dX13_setClosed_37 ?_
      refine T_goto (pc := 38) C 55 dX13_setClosed_38 rfl ?_
      exact T_iret (pc := 55) (v8.1, 0) (fun h9 => h9) (rngL rfl) (nar_Z (Or.inl rfl)) (by decide) dX13_setClosed_55
    · refine T_iconst (pc := 33) C dX13_setClosed_33 ?_
      refine T_goto (pc := 34) C 55 dX13_setClosed_34 rfl ?_
      exact T_iret (pc := 55) (v8.1, 1) (fun h9 => h9) (rngL rfl) (nar_Z (Or.inr rfl)) (by decide) dX13_setClosed_55

abbrev rm_X13_setSuspended : Room := ⟨2, 0, 0, 46⟩
theorem cm_X13_setSuspended : cmV yX13_setSuspended cX13_setSuspended 3 (some .boolean) 2 := ⟨kw_45, kw_145, ⟨by decide +kernel, by decide +kernel, by decide +kernel⟩, kw_271, kw_272⟩
def f_X13_setSuspended (N : Nat) (σ : Sm) (x1 : Int) (x2 : Int) : Option (Sm × Int) :=
  (f_X13_begin N σ).bind fun s1 => (f_X13_isLine s1 x1).bind fun v2 => (if v2 = 0 then (f_X13_fail s1 1).bind fun v4 => (if v4.2 = 1 then some (v4.1, 1) else some (v4.1, 0)) else if rng ((132 + (16 * x1)) + 6) then (f_X13_flag s1 ((132 + (16 * x1)) + 6) x2).bind fun v7 => (f_X13_commit N v7.1 v7.2).bind fun v8 => (if v8.2 = 1 then some (v8.1, 1) else some (v8.1, 0)) else none)
theorem ct_X13_setSuspended {l : Launch} {cy : ClassId} {ad : Nat → Nat} {G : va_G} (N : Nat) (σ : Sm) (x1 : Int) (x2 : Int) (h1 : rng x1) (h2 : bit x2) (hw : wfm σ) (o : Sm × Int) (h : f_X13_setSuspended N σ x1 x2 = some o) : CtI l yX13_setSuspended cX13_setSuspended 3 (some .boolean) rm_X13_setSuspended (wlm cy ad) wfm G (tym cy) [.ref (ad 0), vi x1, vi x2] σ o.1 o.2 := by
  refine ctI_of (by decide) (Nat.le_of_ble_eq_true rfl) hw o o h (fun X Y w => EndI X Y cX13_setSuspended rm_X13_setSuspended .boolean w) (fun _ _ h => h) (fun X A Q hX C => ?_)
  replace C : Cx X (Ym cy ad G A 3 Q) cX13_setSuspended RX13 (some .boolean) rm_X13_setSuspended (tym cy) := C
  show T X (Ym cy ad G A 3 Q) (fun w => EndI X (Ym cy ad G A 3 Q) cX13_setSuspended rm_X13_setSuspended .boolean w) 0 0 0 [(0, .ref (ad 0)), (1, vi x1), (2, vi x2)] [] σ (f_X13_setSuspended N σ x1 x2)
  unfold f_X13_setSuspended
  refine T_aload_n (pc := 0) C dX13_setSuspended_0 rfl 0 rfl ?_
  refine T_callVv (pc := 1) C [] [] (fun o h9 hw => ct_X13_begin N σ hw o h9) kw_177 cm_X13_begin rcm rfl rfl (Nat.le_of_ble_eq_true rfl) (by decide) (a' := 0) (b' := 0) ⟨rfl, rfl⟩ dX13_setSuspended_1 (fun s1 => ?_)
  refine T_aload_n (pc := 4) C dX13_setSuspended_4 rfl 0 rfl ?_
  refine T_iload_n (pc := 5) C dX13_setSuspended_5 rfl 1 rfl ?_
  refine T_callVip (pc := 6) C [vi x1] [] (fun o h9 hw => ct_X13_isLine s1 x1 h1 hw o h9) kw_240 cm_X13_isLine rcm rfl rfl (Nat.le_of_ble_eq_true rfl) (by decide) (a' := 0) (b' := 0) ⟨rfl, rfl⟩ dX13_setSuspended_6 (fun v2 hv2 => ?_)
  refine T_if_eq (pc := 9) C 44 dX13_setSuspended_9 rfl hv2.1 (fun c3 => ?_) (fun c3 => ?_)
  · refine T_aload_n (pc := 44) C dX13_setSuspended_44 rfl 0 rfl ?_
    refine T_iconst (pc := 45) C dX13_setSuspended_45 ?_
    refine T_callVi (pc := 46) C [vi 1] [] (fun o h9 hw => ct_X13_fail s1 1 (rngL rfl) hw o h9) kw_181 cm_X13_fail rcm rfl rfl (Nat.le_of_ble_eq_true rfl) (by decide) (a' := 0) (b' := 0) ⟨rfl, rfl⟩ dX13_setSuspended_46 (fun v4 hv4 => ?_)
    refine T_iconst (pc := 49) C dX13_setSuspended_49 ?_
    refine T_icmp_ne (pc := 50) C 57 dX13_setSuspended_50 rfl hv4.1 (rngL rfl) (fun c5 => ?_) (fun c5 => ?_)
    · refine T_iconst (pc := 57) C dX13_setSuspended_57 ?_
      exact T_iret (pc := 58) (v4.1, 0) (fun h9 => h9) (rngL rfl) (nar_Z (Or.inl rfl)) (by decide) dX13_setSuspended_58
    · refine T_iconst (pc := 53) C dX13_setSuspended_53 ?_
      refine T_goto (pc := 54) C 58 dX13_setSuspended_54 rfl ?_
      exact T_iret (pc := 58) (v4.1, 1) (fun h9 => h9) (rngL rfl) (nar_Z (Or.inr rfl)) (by decide) dX13_setSuspended_58
  · refine T_aload_n (pc := 12) C dX13_setSuspended_12 rfl 0 rfl ?_
    refine T_aload_n (pc := 13) C dX13_setSuspended_13 rfl 0 rfl ?_
    refine T_sipush (pc := 14) C dX13_setSuspended_14 (by decide) ?_
    refine T_bipush (pc := 17) C dX13_setSuspended_17 (by decide) ?_
    refine T_iload_n (pc := 19) C dX13_setSuspended_19 rfl 1 rfl ?_
    refine T_imul (pc := 20) C dX13_setSuspended_20 ?_
    refine T_iadd (pc := 21) C dX13_setSuspended_21 ?_
    refine T_bipush (pc := 22) C dX13_setSuspended_22 (by decide) ?_
    refine T_iadd (pc := 24) C dX13_setSuspended_24 ?_
    refine T_iload_n (pc := 25) C dX13_setSuspended_25 rfl 2 rfl ?_
    refine T_guard (fun g6 => ?_)
    refine T_callVi (pc := 26) C [vi ((132 + (16 * x1)) + 6), vi x2] [.ref (ad 0)] (fun o h9 hw => ct_X13_flag s1 ((132 + (16 * x1)) + 6) x2 g6 h2 hw o h9) kw_261 cm_X13_flag rcm rfl rfl (Nat.le_of_ble_eq_true rfl) (by decide) (a' := 0) (b' := 0) ⟨rfl, rfl⟩ dX13_setSuspended_26 (fun v7 hv7 => ?_)
    refine T_callVi (pc := 29) C [vi v7.2] [] (fun o h9 hw => ct_X13_commit N v7.1 v7.2 hv7.1 hw o h9) kw_180 cm_X13_commit rcm rfl rfl (Nat.le_of_ble_eq_true rfl) (by decide) (a' := 0) (b' := 0) ⟨rfl, rfl⟩ dX13_setSuspended_29 (fun v8 hv8 => ?_)
    refine T_iconst (pc := 32) C dX13_setSuspended_32 ?_
    refine T_icmp_ne (pc := 33) C 40 dX13_setSuspended_33 rfl hv8.1 (rngL rfl) (fun c9 => ?_) (fun c9 => ?_)
    · refine T_iconst (pc := 40) C dX13_setSuspended_40 ?_
      refine T_goto (pc := 41) C 58 dX13_setSuspended_41 rfl ?_
      exact T_iret (pc := 58) (v8.1, 0) (fun h9 => h9) (rngL rfl) (nar_Z (Or.inl rfl)) (by decide) dX13_setSuspended_58
    · refine T_iconst (pc := 36) C dX13_setSuspended_36 ?_
      refine T_goto (pc := 37) C 58 dX13_setSuspended_37 rfl ?_
      exact T_iret (pc := 58) (v8.1, 1) (fun h9 => h9) (rngL rfl) (nar_Z (Or.inr rfl)) (by decide) dX13_setSuspended_58

abbrev rm_X13_ticket : Room := ⟨1, 0, 0, 22⟩
theorem cm_X13_ticket : cmV yX13_ticket cX13_ticket 3 (some .int) 1 := ⟨kw_47, kw_145, ⟨by decide +kernel, by decide +kernel, by decide +kernel⟩, kw_273, kw_274⟩
def f_X13_ticket_2 (σ : Sm) (x1 : Int) : Nat → Int → Option (Int ⊕ Unit)
  | 0, _ => none
  | n + 1, x2 => (if (σ 1 3) ≤ x2 then some (.inr ()) else (f_X13_t σ x2 0).bind fun v7 => (if v7 = x1 then some (.inl x2) else f_X13_ticket_2 σ x1 n (x2 + 1)))
theorem lp_X13_ticket_2 {X : vjX} {A : Nat → Prop} {Q : State → Prop} {cy : ClassId} {ad : Nat → Nat} {G : va_G} (C : Cx X (Ym cy ad G A 3 Q) cX13_ticket RX13 (some .int) rm_X13_ticket (tym cy)) (σ : Sm) (x1 : Int) (h1 : rng x1) : ∀ (n : Nat) (x2 : Int) (h2 : rng x2), T X (Ym cy ad G A 3 Q) (Sum.elim (fun v => EndI X (Ym cy ad G A 3 Q) cX13_ticket rm_X13_ticket .int (σ, v)) (fun (q : Unit) => True → J X (Ym cy ad G A 3 Q) 0 0 30 [] [] σ)) 0 0 2 [(0, .ref (ad 0)), (1, vi x1), (2, vi x2)] [] σ (f_X13_ticket_2 σ x1 n x2) := by
  intro n
  induction n with
  | zero => intro x2 h2; exact T_none
  | succ n ih =>
    intro x2 h2
    rw [f_X13_ticket_2]
    refine T_iload_n (pc := 2) C dX13_ticket_2 rfl 2 rfl ?_
    refine T_aload_n (pc := 3) C dX13_ticket_3 rfl 0 rfl ?_
    refine Tm_getA (pc := 4) C 0 1 (by decide) (fun _ => rfl) kw_152 rfl dX13_ticket_4 ?_
    refine T_iconst (pc := 7) C dX13_ticket_7 ?_
    refine Tm_iald (pc := 8) C 1 3 ⟨by decide, by decide⟩ ⟨by decide, by decide⟩ rfl dX13_ticket_8 (fun r5 => ?_)
    refine T_icmp_ge (pc := 9) C 30 dX13_ticket_9 rfl h2 r5 (fun c6 => ?_) (fun c6 => ?_)
    · refine T_sub (L' := []) [] rfl ?_
      exact T_exit (fun h9 => h9 trivial)
    · refine T_aload_n (pc := 12) C dX13_ticket_12 rfl 0 rfl ?_
      refine T_iload_n (pc := 13) C dX13_ticket_13 rfl 2 rfl ?_
      refine T_iconst (pc := 14) C dX13_ticket_14 ?_
      refine T_callVip (pc := 15) C [vi x2, vi 0] [] (fun o h9 hw => ct_X13_t σ x2 0 h2 (rngL rfl) hw o h9) kw_237 cm_X13_t rcm rfl rfl (Nat.le_of_ble_eq_true rfl) (by decide) (a' := 0) (b' := 0) ⟨rfl, rfl⟩ dX13_ticket_15 (fun v7 hv7 => ?_)
      refine T_iload_n (pc := 18) C dX13_ticket_18 rfl 1 rfl ?_
      refine T_icmp_ne (pc := 19) C 24 dX13_ticket_19 rfl hv7.1 h1 (fun c8 => ?_) (fun c8 => ?_)
      · refine T_iinc (pc := 24) (L' := [(2, vi (x2 + 1)), (0, .ref (ad 0)), (1, vi x1)]) C dX13_ticket_24 (Nat.le_of_ble_eq_true rfl) 2 rfl rfl ?_
        refine T_goto (pc := 27) C 2 dX13_ticket_27 rfl ?_
        refine T_sub (L' := [(0, .ref (ad 0)), (1, vi x1), (2, vi (x2 + 1))]) [1, 2, 0] rfl ?_
        exact ih (x2 + 1) (rng_inc c6 h2 r5)
      · refine T_iload_n (pc := 22) C dX13_ticket_22 rfl 2 rfl ?_
        exact T_iret (pc := 23) (Sum.inl x2) (fun h9 => h9) h2 (nar_I _) (by decide) dX13_ticket_23
def f_X13_ticket (N : Nat) (σ : Sm) (x1 : Int) : Option Int :=
  (f_X13_ticket_2 σ x1 N 0).bind (Sum.elim (fun v => some v) fun q9 => some (-1))
theorem ct_X13_ticket {l : Launch} {cy : ClassId} {ad : Nat → Nat} {G : va_G} (N : Nat) (σ : Sm) (x1 : Int) (h1 : rng x1) (hw : wfm σ) (o : Int) (h : f_X13_ticket N σ x1 = some o) : CtI l yX13_ticket cX13_ticket 3 (some .int) rm_X13_ticket (wlm cy ad) wfm G (tym cy) [.ref (ad 0), vi x1] σ σ o := by
  refine ctI_of (by decide) (Nat.le_of_ble_eq_true rfl) hw (σ, o) o h (fun X Y v => EndI X Y cX13_ticket rm_X13_ticket .int (σ, v)) (fun _ _ h => h) (fun X A Q hX C => ?_)
  replace C : Cx X (Ym cy ad G A 3 Q) cX13_ticket RX13 (some .int) rm_X13_ticket (tym cy) := C
  show T X (Ym cy ad G A 3 Q) (fun v => EndI X (Ym cy ad G A 3 Q) cX13_ticket rm_X13_ticket .int (σ, v)) 0 0 0 [(0, .ref (ad 0)), (1, vi x1)] [] σ (f_X13_ticket N σ x1)
  unfold f_X13_ticket
  refine T_iconst (pc := 0) C dX13_ticket_0 ?_
  refine T_istore_n (pc := 1) (L' := [(2, vi 0), (0, .ref (ad 0)), (1, vi x1)]) C dX13_ticket_1 rfl (Nat.le_of_ble_eq_true rfl) rfl ?_
  refine T_sub (L' := [(0, .ref (ad 0)), (1, vi x1), (2, vi 0)]) [1, 2, 0] rfl ?_
  refine T_loopS (g := fun v => v) (lp_X13_ticket_2 C σ x1 h1 N 0 (rngL rfl)) (fun v h9 => h9) (fun q9 hq9 => ?_)
  refine T_iconst (pc := 30) C dX13_ticket_30 ?_
  exact T_iret (pc := 31) (-1) (fun h9 => h9) (rngL rfl) (nar_I _) (by decide) dX13_ticket_31

abbrev rm_X13_isRide : Room := ⟨1, 0, 0, 22⟩
theorem cm_X13_isRide : cmV yX13_isRide cX13_isRide 5 (some .boolean) 4 := ⟨kw_48, kw_145, ⟨by decide +kernel, by decide +kernel, by decide +kernel⟩, kw_275, kw_276⟩
def f_X13_isRide (σ : Sm) (x1 : Int) (x2 : Int) (x3 : Int) (x4 : Int) : Option Int :=
  (f_X13_in x2 0 99).bind fun v1 => (if v1 = 0 then some 0 else (if x3 < 0 then some 0 else (if x4 ≤ x3 then some 0 else (f_X13_l σ x1 5).bind fun v5 => (if v5 < x4 then some 0 else some 1))))
theorem ct_X13_isRide {l : Launch} {cy : ClassId} {ad : Nat → Nat} {G : va_G} (σ : Sm) (x1 : Int) (x2 : Int) (x3 : Int) (x4 : Int) (h1 : rng x1) (h2 : rng x2) (h3 : rng x3) (h4 : rng x4) (hw : wfm σ) (o : Int) (h : f_X13_isRide σ x1 x2 x3 x4 = some o) : CtI l yX13_isRide cX13_isRide 5 (some .boolean) rm_X13_isRide (wlm cy ad) wfm G (tym cy) [.ref (ad 0), vi x1, vi x2, vi x3, vi x4] σ σ o := by
  refine ctI_of (by decide) (Nat.le_of_ble_eq_true rfl) hw (σ, o) o h (fun X Y v => EndI X Y cX13_isRide rm_X13_isRide .boolean (σ, v)) (fun _ _ h => h) (fun X A Q hX C => ?_)
  replace C : Cx X (Ym cy ad G A 5 Q) cX13_isRide RX13 (some .boolean) rm_X13_isRide (tym cy) := C
  show T X (Ym cy ad G A 5 Q) (fun v => EndI X (Ym cy ad G A 5 Q) cX13_isRide rm_X13_isRide .boolean (σ, v)) 0 0 0 [(0, .ref (ad 0)), (1, vi x1), (2, vi x2), (3, vi x3), (4, vi x4)] [] σ (f_X13_isRide σ x1 x2 x3 x4)
  unfold f_X13_isRide
  refine T_iload_n (pc := 0) C dX13_isRide_0 rfl 2 rfl ?_
  refine T_iconst (pc := 1) C dX13_isRide_1 ?_
  refine T_bipush (pc := 2) C dX13_isRide_2 (by decide) ?_
  refine T_callSip (pc := 4) C [vi x2, vi 0, vi 99] [] (fun o h9 hw => ct_X13_in σ x2 0 99 h2 (rngL rfl) (rngL rfl) hw o h9) kw_161 cm_X13_in rfl rfl (Nat.le_of_ble_eq_true rfl) (by decide) (a' := 0) (b' := 0) ⟨rfl, rfl⟩ dX13_isRide_4 (fun v1 hv1 => ?_)
  refine T_if_eq (pc := 7) C 35 dX13_isRide_7 rfl hv1.1 (fun c2 => ?_) (fun c2 => ?_)
  · refine T_iconst (pc := 35) C dX13_isRide_35 ?_
    exact T_iret (pc := 36) 0 (fun h9 => h9) (rngL rfl) (nar_Z (Or.inl rfl)) (by decide) dX13_isRide_36
  · refine T_iload_n (pc := 10) C dX13_isRide_10 rfl 3 rfl ?_
    refine T_if_lt (pc := 11) C 35 dX13_isRide_11 rfl h3 (fun c3 => ?_) (fun c3 => ?_)
    · refine T_iconst (pc := 35) C dX13_isRide_35 ?_
      exact T_iret (pc := 36) 0 (fun h9 => h9) (rngL rfl) (nar_Z (Or.inl rfl)) (by decide) dX13_isRide_36
    · refine T_iload (pc := 14) C dX13_isRide_14 4 rfl ?_
      refine T_iload_n (pc := 16) C dX13_isRide_16 rfl 3 rfl ?_
      refine T_icmp_le (pc := 17) C 35 dX13_isRide_17 rfl h4 h3 (fun c4 => ?_) (fun c4 => ?_)
      · refine T_iconst (pc := 35) C dX13_isRide_35 ?_
        exact T_iret (pc := 36) 0 (fun h9 => h9) (rngL rfl) (nar_Z (Or.inl rfl)) (by decide) dX13_isRide_36
      · refine T_iload (pc := 20) C dX13_isRide_20 4 rfl ?_
        refine T_aload_n (pc := 22) C dX13_isRide_22 rfl 0 rfl ?_
        refine T_iload_n (pc := 23) C dX13_isRide_23 rfl 1 rfl ?_
        refine T_iconst (pc := 24) C dX13_isRide_24 ?_
        refine T_callVip (pc := 25) C [vi x1, vi 5] [vi x4] (fun o h9 hw => ct_X13_l σ x1 5 h1 (rngL rfl) hw o h9) kw_211 cm_X13_l rcm rfl rfl (Nat.le_of_ble_eq_true rfl) (by decide) (a' := 0) (b' := 0) ⟨rfl, rfl⟩ dX13_isRide_25 (fun v5 hv5 => ?_)
        refine T_icmp_gt (pc := 28) C 35 dX13_isRide_28 rfl h4 hv5.1 (fun c6 => ?_) (fun c6 => ?_)
        · refine T_iconst (pc := 35) C dX13_isRide_35 ?_
          exact T_iret (pc := 36) 0 (fun h9 => h9) (rngL rfl) (nar_Z (Or.inl rfl)) (by decide) dX13_isRide_36
        · refine T_iconst (pc := 31) C dX13_isRide_31 ?_
          refine T_goto (pc := 32) C 36 dX13_isRide_32 rfl ?_
          exact T_iret (pc := 36) 1 (fun h9 => h9) (rngL rfl) (nar_Z (Or.inr rfl)) (by decide) dX13_isRide_36

abbrev rm_X13_soldOn : Room := ⟨1, 0, 0, 22⟩
theorem cm_X13_soldOn : cmV yX13_soldOn cX13_soldOn 6 (some .int) 3 := ⟨kw_49, kw_145, ⟨by decide +kernel, by decide +kernel, by decide +kernel⟩, kw_277, kw_278⟩
def f_X13_soldOn_6 (σ : Sm) (x1 : Int) (x2 : Int) (x3 : Int) : Nat → Int → Int → Option (Int)
  | 0, _, _ => none
  | n + 1, x4, x5 => (if (σ 1 3) ≤ x5 then some x4 else (f_X13_t σ x5 1).bind fun v16 => (if v16 = x1 then (f_X13_t σ x5 2).bind fun v20 => (if v20 = x2 then (f_X13_t σ x5 3).bind fun v24 => (if x3 < v24 then bl (x4 + 0) fun v26 => if rng v26 then f_X13_soldOn_6 σ x1 x2 x3 n v26 (x5 + 1) else none else (f_X13_t σ x5 4).bind fun v28 => (if v28 ≤ x3 then bl (x4 + 0) fun v30 => if rng v30 then f_X13_soldOn_6 σ x1 x2 x3 n v30 (x5 + 1) else none else bl (x4 + 1) fun v32 => if rng v32 then f_X13_soldOn_6 σ x1 x2 x3 n v32 (x5 + 1) else none)) else bl (x4 + 0) fun v22 => if rng v22 then f_X13_soldOn_6 σ x1 x2 x3 n v22 (x5 + 1) else none) else bl (x4 + 0) fun v18 => if rng v18 then f_X13_soldOn_6 σ x1 x2 x3 n v18 (x5 + 1) else none))
theorem lp_X13_soldOn_6 {X : vjX} {A : Nat → Prop} {Q : State → Prop} {cy : ClassId} {ad : Nat → Nat} {G : va_G} (C : Cx X (Ym cy ad G A 6 Q) cX13_soldOn RX13 (some .int) rm_X13_soldOn (tym cy)) (σ : Sm) (x1 : Int) (x2 : Int) (x3 : Int) (h1 : rng x1) (h2 : rng x2) (h3 : rng x3) : ∀ (n : Nat) (x4 : Int) (x5 : Int) (h4 : rng x4) (h5 : rng x5), T X (Ym cy ad G A 6 Q) (fun (q : Int) => rng q → J X (Ym cy ad G A 6 Q) 0 0 77 [(4, vi q)] [] σ) 0 0 6 [(0, .ref (ad 0)), (1, vi x1), (2, vi x2), (3, vi x3), (4, vi x4), (5, vi x5)] [] σ (f_X13_soldOn_6 σ x1 x2 x3 n x4 x5) := by
  intro n
  induction n with
  | zero => intro x4 x5 h4 h5; exact T_none
  | succ n ih =>
    intro x4 x5 h4 h5
    rw [f_X13_soldOn_6]
    refine T_iload (pc := 6) C dX13_soldOn_6 5 rfl ?_
    refine T_aload_n (pc := 8) C dX13_soldOn_8 rfl 0 rfl ?_
    refine Tm_getA (pc := 9) C 0 1 (by decide) (fun _ => rfl) kw_152 rfl dX13_soldOn_9 ?_
    refine T_iconst (pc := 12) C dX13_soldOn_12 ?_
    refine Tm_iald (pc := 13) C 1 3 ⟨by decide, by decide⟩ ⟨by decide, by decide⟩ rfl dX13_soldOn_13 (fun r14 => ?_)
    refine T_icmp_ge (pc := 14) C 77 dX13_soldOn_14 rfl h5 r14 (fun c15 => ?_) (fun c15 => ?_)
    · refine T_sub (L' := [(4, vi x4)]) [4] rfl ?_
      exact T_exit (fun h9 => h9 h4)
    · refine T_iload (pc := 17) C dX13_soldOn_17 4 rfl ?_
      refine T_aload_n (pc := 19) C dX13_soldOn_19 rfl 0 rfl ?_
      refine T_iload (pc := 20) C dX13_soldOn_20 5 rfl ?_
      refine T_iconst (pc := 22) C dX13_soldOn_22 ?_
      refine T_callVip (pc := 23) C [vi x5, vi 1] [vi x4] (fun o h9 hw => ct_X13_t σ x5 1 h5 (rngL rfl) hw o h9) kw_237 cm_X13_t rcm rfl rfl (Nat.le_of_ble_eq_true rfl) (by decide) (a' := 0) (b' := 0) ⟨rfl, rfl⟩ dX13_soldOn_23 (fun v16 hv16 => ?_)
      refine T_iload_n (pc := 26) C dX13_soldOn_26 rfl 1 rfl ?_
      refine T_icmp_ne (pc := 27) C 67 dX13_soldOn_27 rfl hv16.1 h1 (fun c17 => ?_) (fun c17 => ?_)
      · refine T_iconst (pc := 67) C dX13_soldOn_67 ?_
        refine T_iadd (pc := 68) C dX13_soldOn_68 ?_
        refine T_blN (fun v18 => ?_)
        refine T_istore (pc := 69) (L' := [(4, vi v18), (0, .ref (ad 0)), (1, vi x1), (2, vi x2), (3, vi x3), (5, vi x5)]) C dX13_soldOn_69 (Nat.le_of_ble_eq_true rfl) rfl ?_
        refine T_iinc (pc := 71) (L' := [(5, vi (x5 + 1)), (4, vi v18), (0, .ref (ad 0)), (1, vi x1), (2, vi x2), (3, vi x3)]) C dX13_soldOn_71 (Nat.le_of_ble_eq_true rfl) 5 rfl rfl ?_
        refine T_goto (pc := 74) C 6 dX13_soldOn_74 rfl ?_
        refine T_sub (L' := [(0, .ref (ad 0)), (1, vi x1), (2, vi x2), (3, vi x3), (4, vi v18), (5, vi (x5 + 1))]) [2, 3, 4, 5, 1, 0] rfl ?_
        refine T_guard (fun g19 => ?_)
        exact ih v18 (x5 + 1) g19 (rng_inc c15 h5 r14)
      · refine T_aload_n (pc := 30) C dX13_soldOn_30 rfl 0 rfl ?_
        refine T_iload (pc := 31) C dX13_soldOn_31 5 rfl ?_
        refine T_iconst (pc := 33) C dX13_soldOn_33 ?_
        refine T_callVip (pc := 34) C [vi x5, vi 2] [vi x4] (fun o h9 hw => ct_X13_t σ x5 2 h5 (rngL rfl) hw o h9) kw_237 cm_X13_t rcm rfl rfl (Nat.le_of_ble_eq_true rfl) (by decide) (a' := 0) (b' := 0) ⟨rfl, rfl⟩ dX13_soldOn_34 (fun v20 hv20 => ?_)
        refine T_iload_n (pc := 37) C dX13_soldOn_37 rfl 2 rfl ?_
        refine T_icmp_ne (pc := 38) C 67 dX13_soldOn_38 rfl hv20.1 h2 (fun c21 => ?_) (fun c21 => ?_)
        · refine T_iconst (pc := 67) C dX13_soldOn_67 ?_
          refine T_iadd (pc := 68) C dX13_soldOn_68 ?_
          refine T_blN (fun v22 => ?_)
          refine T_istore (pc := 69) (L' := [(4, vi v22), (0, .ref (ad 0)), (1, vi x1), (2, vi x2), (3, vi x3), (5, vi x5)]) C dX13_soldOn_69 (Nat.le_of_ble_eq_true rfl) rfl ?_
          refine T_iinc (pc := 71) (L' := [(5, vi (x5 + 1)), (4, vi v22), (0, .ref (ad 0)), (1, vi x1), (2, vi x2), (3, vi x3)]) C dX13_soldOn_71 (Nat.le_of_ble_eq_true rfl) 5 rfl rfl ?_
          refine T_goto (pc := 74) C 6 dX13_soldOn_74 rfl ?_
          refine T_sub (L' := [(0, .ref (ad 0)), (1, vi x1), (2, vi x2), (3, vi x3), (4, vi v22), (5, vi (x5 + 1))]) [2, 3, 4, 5, 1, 0] rfl ?_
          refine T_guard (fun g23 => ?_)
          exact ih v22 (x5 + 1) g23 (rng_inc c15 h5 r14)
        · refine T_aload_n (pc := 41) C dX13_soldOn_41 rfl 0 rfl ?_
          refine T_iload (pc := 42) C dX13_soldOn_42 5 rfl ?_
          refine T_iconst (pc := 44) C dX13_soldOn_44 ?_
          refine T_callVip (pc := 45) C [vi x5, vi 3] [vi x4] (fun o h9 hw => ct_X13_t σ x5 3 h5 (rngL rfl) hw o h9) kw_237 cm_X13_t rcm rfl rfl (Nat.le_of_ble_eq_true rfl) (by decide) (a' := 0) (b' := 0) ⟨rfl, rfl⟩ dX13_soldOn_45 (fun v24 hv24 => ?_)
          refine T_iload_n (pc := 48) C dX13_soldOn_48 rfl 3 rfl ?_
          refine T_icmp_gt (pc := 49) C 67 dX13_soldOn_49 rfl hv24.1 h3 (fun c25 => ?_) (fun c25 => ?_)
          · refine T_iconst (pc := 67) C dX13_soldOn_67 ?_
            refine T_iadd (pc := 68) C dX13_soldOn_68 ?_
            refine T_blN (fun v26 => ?_)
            refine T_istore (pc := 69) (L' := [(4, vi v26), (0, .ref (ad 0)), (1, vi x1), (2, vi x2), (3, vi x3), (5, vi x5)]) C dX13_soldOn_69 (Nat.le_of_ble_eq_true rfl) rfl ?_
            refine T_iinc (pc := 71) (L' := [(5, vi (x5 + 1)), (4, vi v26), (0, .ref (ad 0)), (1, vi x1), (2, vi x2), (3, vi x3)]) C dX13_soldOn_71 (Nat.le_of_ble_eq_true rfl) 5 rfl rfl ?_
            refine T_goto (pc := 74) C 6 dX13_soldOn_74 rfl ?_
            refine T_sub (L' := [(0, .ref (ad 0)), (1, vi x1), (2, vi x2), (3, vi x3), (4, vi v26), (5, vi (x5 + 1))]) [2, 3, 4, 5, 1, 0] rfl ?_
            refine T_guard (fun g27 => ?_)
            exact ih v26 (x5 + 1) g27 (rng_inc c15 h5 r14)
          · refine T_aload_n (pc := 52) C dX13_soldOn_52 rfl 0 rfl ?_
            refine T_iload (pc := 53) C dX13_soldOn_53 5 rfl ?_
            refine T_iconst (pc := 55) C dX13_soldOn_55 ?_
            refine T_callVip (pc := 56) C [vi x5, vi 4] [vi x4] (fun o h9 hw => ct_X13_t σ x5 4 h5 (rngL rfl) hw o h9) kw_237 cm_X13_t rcm rfl rfl (Nat.le_of_ble_eq_true rfl) (by decide) (a' := 0) (b' := 0) ⟨rfl, rfl⟩ dX13_soldOn_56 (fun v28 hv28 => ?_)
            refine T_iload_n (pc := 59) C dX13_soldOn_59 rfl 3 rfl ?_
            refine T_icmp_le (pc := 60) C 67 dX13_soldOn_60 rfl hv28.1 h3 (fun c29 => ?_) (fun c29 => ?_)
            · refine T_iconst (pc := 67) C dX13_soldOn_67 ?_
              refine T_iadd (pc := 68) C dX13_soldOn_68 ?_
              refine T_blN (fun v30 => ?_)
              refine T_istore (pc := 69) (L' := [(4, vi v30), (0, .ref (ad 0)), (1, vi x1), (2, vi x2), (3, vi x3), (5, vi x5)]) C dX13_soldOn_69 (Nat.le_of_ble_eq_true rfl) rfl ?_
              refine T_iinc (pc := 71) (L' := [(5, vi (x5 + 1)), (4, vi v30), (0, .ref (ad 0)), (1, vi x1), (2, vi x2), (3, vi x3)]) C dX13_soldOn_71 (Nat.le_of_ble_eq_true rfl) 5 rfl rfl ?_
              refine T_goto (pc := 74) C 6 dX13_soldOn_74 rfl ?_
              refine T_sub (L' := [(0, .ref (ad 0)), (1, vi x1), (2, vi x2), (3, vi x3), (4, vi v30), (5, vi (x5 + 1))]) [2, 3, 4, 5, 1, 0] rfl ?_
              refine T_guard (fun g31 => ?_)
              exact ih v30 (x5 + 1) g31 (rng_inc c15 h5 r14)
            · refine T_iconst (pc := 63) C dX13_soldOn_63 ?_
              refine T_goto (pc := 64) C 68 dX13_soldOn_64 rfl ?_
              refine T_iadd (pc := 68) C dX13_soldOn_68 ?_
              refine T_blN (fun v32 => ?_)
              refine T_istore (pc := 69) (L' := [(4, vi v32), (0, .ref (ad 0)), (1, vi x1), (2, vi x2), (3, vi x3), (5, vi x5)]) C dX13_soldOn_69 (Nat.le_of_ble_eq_true rfl) rfl ?_
              refine T_iinc (pc := 71) (L' := [(5, vi (x5 + 1)), (4, vi v32), (0, .ref (ad 0)), (1, vi x1), (2, vi x2), (3, vi x3)]) C dX13_soldOn_71 (Nat.le_of_ble_eq_true rfl) 5 rfl rfl ?_
              refine T_goto (pc := 74) C 6 dX13_soldOn_74 rfl ?_
              refine T_sub (L' := [(0, .ref (ad 0)), (1, vi x1), (2, vi x2), (3, vi x3), (4, vi v32), (5, vi (x5 + 1))]) [2, 3, 4, 5, 1, 0] rfl ?_
              refine T_guard (fun g33 => ?_)
              exact ih v32 (x5 + 1) g33 (rng_inc c15 h5 r14)
def f_X13_soldOn (N : Nat) (σ : Sm) (x1 : Int) (x2 : Int) (x3 : Int) : Option Int :=
  (f_X13_soldOn_6 σ x1 x2 x3 N 0 0).bind fun q34 => some q34
theorem ct_X13_soldOn {l : Launch} {cy : ClassId} {ad : Nat → Nat} {G : va_G} (N : Nat) (σ : Sm) (x1 : Int) (x2 : Int) (x3 : Int) (h1 : rng x1) (h2 : rng x2) (h3 : rng x3) (hw : wfm σ) (o : Int) (h : f_X13_soldOn N σ x1 x2 x3 = some o) : CtI l yX13_soldOn cX13_soldOn 6 (some .int) rm_X13_soldOn (wlm cy ad) wfm G (tym cy) [.ref (ad 0), vi x1, vi x2, vi x3] σ σ o := by
  refine ctI_of (by decide) (Nat.le_of_ble_eq_true rfl) hw (σ, o) o h (fun X Y v => EndI X Y cX13_soldOn rm_X13_soldOn .int (σ, v)) (fun _ _ h => h) (fun X A Q hX C => ?_)
  replace C : Cx X (Ym cy ad G A 6 Q) cX13_soldOn RX13 (some .int) rm_X13_soldOn (tym cy) := C
  show T X (Ym cy ad G A 6 Q) (fun v => EndI X (Ym cy ad G A 6 Q) cX13_soldOn rm_X13_soldOn .int (σ, v)) 0 0 0 [(0, .ref (ad 0)), (1, vi x1), (2, vi x2), (3, vi x3)] [] σ (f_X13_soldOn N σ x1 x2 x3)
  unfold f_X13_soldOn
  refine T_iconst (pc := 0) C dX13_soldOn_0 ?_
  refine T_istore (pc := 1) (L' := [(4, vi 0), (0, .ref (ad 0)), (1, vi x1), (2, vi x2), (3, vi x3)]) C dX13_soldOn_1 (Nat.le_of_ble_eq_true rfl) rfl ?_
  refine T_iconst (pc := 3) C dX13_soldOn_3 ?_
  refine T_istore (pc := 4) (L' := [(5, vi 0), (4, vi 0), (0, .ref (ad 0)), (1, vi x1), (2, vi x2), (3, vi x3)]) C dX13_soldOn_4 (Nat.le_of_ble_eq_true rfl) rfl ?_
  refine T_sub (L' := [(0, .ref (ad 0)), (1, vi x1), (2, vi x2), (3, vi x3), (4, vi 0), (5, vi 0)]) [2, 3, 4, 5, 1, 0] rfl ?_
  refine T_loopE (lp_X13_soldOn_6 C σ x1 x2 x3 h1 h2 h3 N 0 0 (rngL rfl) (rngL rfl)) (fun q34 hq34 => ?_)
  refine T_iload (pc := 77) C dX13_soldOn_77 0 rfl ?_
  exact T_iret (pc := 79) q34 (fun h9 => h9) hq34 (nar_I _) (by decide) dX13_soldOn_79

abbrev rm_X13_free : Room := ⟨2, 0, 0, 47⟩
theorem cm_X13_free : cmV yX13_free cX13_free 7 (some .int) 4 := ⟨kw_50, kw_145, ⟨by decide +kernel, by decide +kernel, by decide +kernel⟩, kw_280, kw_281⟩
def f_X13_free_6 (N : Nat) (σ : Sm) (x1 : Int) (x2 : Int) (x4 : Int) : Nat → Int → Int → Option (Int)
  | 0, _, _ => none
  | n + 1, x5, x6 => (if x4 ≤ x6 then some x5 else (f_X13_soldOn N σ x1 x2 x6).bind fun v7 => (if v7 ≤ x5 then f_X13_free_6 N σ x1 x2 x4 n x5 (x6 + 1) else (f_X13_soldOn N σ x1 x2 x6).bind fun v9 => f_X13_free_6 N σ x1 x2 x4 n v9 (x6 + 1)))
theorem lp_X13_free_6 {X : vjX} {A : Nat → Prop} {Q : State → Prop} {cy : ClassId} {ad : Nat → Nat} {G : va_G} (C : Cx X (Ym cy ad G A 7 Q) cX13_free RX13 (some .int) rm_X13_free (tym cy)) (N : Nat) (σ : Sm) (x1 : Int) (x2 : Int) (x4 : Int) (h1 : rng x1) (h2 : rng x2) (h4 : rng x4) : ∀ (n : Nat) (x5 : Int) (x6 : Int) (h5 : rng x5) (h6 : rng x6), T X (Ym cy ad G A 7 Q) (fun (q : Int) => rng q → J X (Ym cy ad G A 7 Q) 0 0 47 [(0, .ref (ad 0)), (1, vi x1), (5, vi q)] [] σ) 0 0 6 [(0, .ref (ad 0)), (1, vi x1), (2, vi x2), (4, vi x4), (5, vi x5), (6, vi x6)] [] σ (f_X13_free_6 N σ x1 x2 x4 n x5 x6) := by
  intro n
  induction n with
  | zero => intro x5 x6 h5 h6; exact T_none
  | succ n ih =>
    intro x5 x6 h5 h6
    rw [f_X13_free_6]
    refine T_iload (pc := 6) C dX13_free_6 5 rfl ?_
    refine T_iload (pc := 8) C dX13_free_8 3 rfl ?_
    refine T_icmp_ge (pc := 10) C 47 dX13_free_10 rfl h6 h4 (fun c6 => ?_) (fun c6 => ?_)
    · refine T_sub (L' := [(0, .ref (ad 0)), (1, vi x1), (5, vi x5)]) [0, 1, 4] rfl ?_
      exact T_exit (fun h9 => h9 h5)
    · refine T_aload_n (pc := 13) C dX13_free_13 rfl 0 rfl ?_
      refine T_iload_n (pc := 14) C dX13_free_14 rfl 1 rfl ?_
      refine T_iload_n (pc := 15) C dX13_free_15 rfl 2 rfl ?_
      refine T_iload (pc := 16) C dX13_free_16 5 rfl ?_
      refine T_callVip (pc := 18) C [vi x1, vi x2, vi x6] [] (fun o h9 hw => ct_X13_soldOn N σ x1 x2 x6 h1 h2 h6 hw o h9) kw_279 cm_X13_soldOn rcm rfl rfl (Nat.le_of_ble_eq_true rfl) (by decide) (a' := 0) (b' := 0) ⟨rfl, rfl⟩ dX13_free_18 (fun v7 hv7 => ?_)
      refine T_iload (pc := 21) C dX13_free_21 4 rfl ?_
      refine T_icmp_le (pc := 23) C 37 dX13_free_23 rfl hv7.1 h5 (fun c8 => ?_) (fun c8 => ?_)
      · refine T_iload (pc := 37) C dX13_free_37 4 rfl ?_
        refine T_istore (pc := 39) (L' := [(5, vi x5), (0, .ref (ad 0)), (1, vi x1), (2, vi x2), (4, vi x4), (6, vi x6)]) C dX13_free_39 (Nat.le_of_ble_eq_true rfl) rfl ?_
        refine T_iinc (pc := 41) (L' := [(6, vi (x6 + 1)), (5, vi x5), (0, .ref (ad 0)), (1, vi x1), (2, vi x2), (4, vi x4)]) C dX13_free_41 (Nat.le_of_ble_eq_true rfl) 5 rfl rfl ?_
        refine T_goto (pc := 44) C 6 dX13_free_44 rfl ?_
        refine T_sub (L' := [(0, .ref (ad 0)), (1, vi x1), (2, vi x2), (4, vi x4), (5, vi x5), (6, vi (x6 + 1))]) [2, 3, 4, 5, 1, 0] rfl ?_
        exact ih x5 (x6 + 1) h5 (rng_inc c6 h6 h4)
      · refine T_aload_n (pc := 26) C dX13_free_26 rfl 0 rfl ?_
        refine T_iload_n (pc := 27) C dX13_free_27 rfl 1 rfl ?_
        refine T_iload_n (pc := 28) C dX13_free_28 rfl 2 rfl ?_
        refine T_iload (pc := 29) C dX13_free_29 5 rfl ?_
        refine T_callVip (pc := 31) C [vi x1, vi x2, vi x6] [] (fun o h9 hw => ct_X13_soldOn N σ x1 x2 x6 h1 h2 h6 hw o h9) kw_279 cm_X13_soldOn rcm rfl rfl (Nat.le_of_ble_eq_true rfl) (by decide) (a' := 0) (b' := 0) ⟨rfl, rfl⟩ dX13_free_31 (fun v9 hv9 => ?_)
        refine T_goto (pc := 34) C 39 dX13_free_34 rfl ?_
        refine T_istore (pc := 39) (L' := [(5, vi v9), (0, .ref (ad 0)), (1, vi x1), (2, vi x2), (4, vi x4), (6, vi x6)]) C dX13_free_39 (Nat.le_of_ble_eq_true rfl) rfl ?_
        refine T_iinc (pc := 41) (L' := [(6, vi (x6 + 1)), (5, vi v9), (0, .ref (ad 0)), (1, vi x1), (2, vi x2), (4, vi x4)]) C dX13_free_41 (Nat.le_of_ble_eq_true rfl) 5 rfl rfl ?_
        refine T_goto (pc := 44) C 6 dX13_free_44 rfl ?_
        refine T_sub (L' := [(0, .ref (ad 0)), (1, vi x1), (2, vi x2), (4, vi x4), (5, vi v9), (6, vi (x6 + 1))]) [2, 3, 4, 5, 1, 0] rfl ?_
        exact ih v9 (x6 + 1) hv9.1 (rng_inc c6 h6 h4)
def f_X13_free (N : Nat) (σ : Sm) (x1 : Int) (x2 : Int) (x3 : Int) (x4 : Int) : Option Int :=
  (f_X13_free_6 N σ x1 x2 x4 N 0 x3).bind fun q10 => (f_X13_l σ x1 4).bind fun v11 => if rng (v11 - q10) then some (v11 - q10) else none
theorem ct_X13_free {l : Launch} {cy : ClassId} {ad : Nat → Nat} {G : va_G} (N : Nat) (σ : Sm) (x1 : Int) (x2 : Int) (x3 : Int) (x4 : Int) (h1 : rng x1) (h2 : rng x2) (h3 : rng x3) (h4 : rng x4) (hw : wfm σ) (o : Int) (h : f_X13_free N σ x1 x2 x3 x4 = some o) : CtI l yX13_free cX13_free 7 (some .int) rm_X13_free (wlm cy ad) wfm G (tym cy) [.ref (ad 0), vi x1, vi x2, vi x3, vi x4] σ σ o := by
  refine ctI_of (by decide) (Nat.le_of_ble_eq_true rfl) hw (σ, o) o h (fun X Y v => EndI X Y cX13_free rm_X13_free .int (σ, v)) (fun _ _ h => h) (fun X A Q hX C => ?_)
  replace C : Cx X (Ym cy ad G A 7 Q) cX13_free RX13 (some .int) rm_X13_free (tym cy) := C
  show T X (Ym cy ad G A 7 Q) (fun v => EndI X (Ym cy ad G A 7 Q) cX13_free rm_X13_free .int (σ, v)) 0 0 0 [(0, .ref (ad 0)), (1, vi x1), (2, vi x2), (3, vi x3), (4, vi x4)] [] σ (f_X13_free N σ x1 x2 x3 x4)
  unfold f_X13_free
  refine T_iconst (pc := 0) C dX13_free_0 ?_
  refine T_istore (pc := 1) (L' := [(5, vi 0), (0, .ref (ad 0)), (1, vi x1), (2, vi x2), (3, vi x3), (4, vi x4)]) C dX13_free_1 (Nat.le_of_ble_eq_true rfl) rfl ?_
  refine T_iload_n (pc := 3) C dX13_free_3 rfl 4 rfl ?_
  refine T_istore (pc := 4) (L' := [(6, vi x3), (5, vi 0), (0, .ref (ad 0)), (1, vi x1), (2, vi x2), (3, vi x3), (4, vi x4)]) C dX13_free_4 (Nat.le_of_ble_eq_true rfl) rfl ?_
  refine T_sub (L' := [(0, .ref (ad 0)), (1, vi x1), (2, vi x2), (4, vi x4), (5, vi 0), (6, vi x3)]) [2, 3, 4, 6, 1, 0] rfl ?_
  refine T_loopE (lp_X13_free_6 C N σ x1 x2 x4 h1 h2 h4 N 0 x3 (rngL rfl) h3) (fun q10 hq10 => ?_)
  refine T_aload_n (pc := 47) C dX13_free_47 rfl 0 rfl ?_
  refine T_iload_n (pc := 48) C dX13_free_48 rfl 1 rfl ?_
  refine T_iconst (pc := 49) C dX13_free_49 ?_
  refine T_callVip (pc := 50) C [vi x1, vi 4] [] (fun o h9 hw => ct_X13_l σ x1 4 h1 (rngL rfl) hw o h9) kw_211 cm_X13_l rcm rfl rfl (Nat.le_of_ble_eq_true rfl) (by decide) (a' := 0) (b' := 0) ⟨rfl, rfl⟩ dX13_free_50 (fun v11 hv11 => ?_)
  refine T_iload (pc := 53) C dX13_free_53 2 rfl ?_
  refine T_isub (pc := 55) C dX13_free_55 ?_
  refine T_guard (fun g12 => ?_)
  exact T_iret (pc := 56) (v11 - q10) (fun h9 => h9) g12 (nar_I _) (by decide) dX13_free_56

abbrev rm_X13_cannotSell : Room := ⟨3, 0, 0, 73⟩
theorem cm_X13_cannotSell : cmV yX13_cannotSell cX13_cannotSell 5 (some .int) 4 := ⟨kw_51, kw_145, ⟨by decide +kernel, by decide +kernel, by decide +kernel⟩, kw_285, kw_286⟩
def f_X13_cannotSell (N : Nat) (σ : Sm) (x1 : Int) (x2 : Int) (x3 : Int) (x4 : Int) : Option Int :=
  (f_X13_isLine σ x1).bind fun v1 => (if v1 = 0 then some 1 else (f_X13_isRide σ x1 x2 x3 x4).bind fun v3 => (if v3 = 0 then some 2 else (f_X13_isRunning σ x1).bind fun v5 => (if v5 = 0 then some 3 else (if (σ 1 3) = 16 then some 3 else (f_X13_free N σ x1 x2 x3 x4).bind fun v9 => (if v9 = 0 then some 4 else some 0)))))
theorem ct_X13_cannotSell {l : Launch} {cy : ClassId} {ad : Nat → Nat} {G : va_G} (N : Nat) (σ : Sm) (x1 : Int) (x2 : Int) (x3 : Int) (x4 : Int) (h1 : rng x1) (h2 : rng x2) (h3 : rng x3) (h4 : rng x4) (hw : wfm σ) (o : Int) (h : f_X13_cannotSell N σ x1 x2 x3 x4 = some o) : CtI l yX13_cannotSell cX13_cannotSell 5 (some .int) rm_X13_cannotSell (wlm cy ad) wfm G (tym cy) [.ref (ad 0), vi x1, vi x2, vi x3, vi x4] σ σ o := by
  refine ctI_of (by decide) (Nat.le_of_ble_eq_true rfl) hw (σ, o) o h (fun X Y v => EndI X Y cX13_cannotSell rm_X13_cannotSell .int (σ, v)) (fun _ _ h => h) (fun X A Q hX C => ?_)
  replace C : Cx X (Ym cy ad G A 5 Q) cX13_cannotSell RX13 (some .int) rm_X13_cannotSell (tym cy) := C
  show T X (Ym cy ad G A 5 Q) (fun v => EndI X (Ym cy ad G A 5 Q) cX13_cannotSell rm_X13_cannotSell .int (σ, v)) 0 0 0 [(0, .ref (ad 0)), (1, vi x1), (2, vi x2), (3, vi x3), (4, vi x4)] [] σ (f_X13_cannotSell N σ x1 x2 x3 x4)
  unfold f_X13_cannotSell
  refine T_aload_n (pc := 0) C dX13_cannotSell_0 rfl 0 rfl ?_
  refine T_iload_n (pc := 1) C dX13_cannotSell_1 rfl 1 rfl ?_
  refine T_callVip (pc := 2) C [vi x1] [] (fun o h9 hw => ct_X13_isLine σ x1 h1 hw o h9) kw_240 cm_X13_isLine rcm rfl rfl (Nat.le_of_ble_eq_true rfl) (by decide) (a' := 0) (b' := 0) ⟨rfl, rfl⟩ dX13_cannotSell_2 (fun v1 hv1 => ?_)
  refine T_if_ne (pc := 5) C 10 dX13_cannotSell_5 rfl hv1.1 (fun c2 => ?_) (fun c2 => ?_)
  · refine T_aload_n (pc := 10) C dX13_cannotSell_10 rfl 0 rfl ?_
    refine T_iload_n (pc := 11) C dX13_cannotSell_11 rfl 1 rfl ?_
    refine T_iload_n (pc := 12) C dX13_cannotSell_12 rfl 2 rfl ?_
    refine T_iload_n (pc := 13) C dX13_cannotSell_13 rfl 3 rfl ?_
    refine T_iload (pc := 14) C dX13_cannotSell_14 4 rfl ?_
    refine T_callVip (pc := 16) C [vi x1, vi x2, vi x3, vi x4] [] (fun o h9 hw => ct_X13_isRide σ x1 x2 x3 x4 h1 h2 h3 h4 hw o h9) kw_282 cm_X13_isRide rcm rfl rfl (Nat.le_of_ble_eq_true rfl) (by decide) (a' := 0) (b' := 0) ⟨rfl, rfl⟩ dX13_cannotSell_16 (fun v3 hv3 => ?_)
    refine T_if_ne (pc := 19) C 24 dX13_cannotSell_19 rfl hv3.1 (fun c4 => ?_) (fun c4 => ?_)
    · refine T_aload_n (pc := 24) C dX13_cannotSell_24 rfl 0 rfl ?_
      refine T_iload_n (pc := 25) C dX13_cannotSell_25 rfl 1 rfl ?_
      refine T_callVip (pc := 26) C [vi x1] [] (fun o h9 hw => ct_X13_isRunning σ x1 h1 hw o h9) kw_283 cm_X13_isRunning rcm rfl rfl (Nat.le_of_ble_eq_true rfl) (by decide) (a' := 0) (b' := 0) ⟨rfl, rfl⟩ dX13_cannotSell_26 (fun v5 hv5 => ?_)
      refine T_if_eq (pc := 29) C 43 dX13_cannotSell_29 rfl hv5.1 (fun c6 => ?_) (fun c6 => ?_)
      · refine T_iconst (pc := 43) C dX13_cannotSell_43 ?_
        exact T_iret (pc := 44) 3 (fun h9 => h9) (rngL rfl) (nar_I _) (by decide) dX13_cannotSell_44
      · refine T_aload_n (pc := 32) C dX13_cannotSell_32 rfl 0 rfl ?_
        refine Tm_getA (pc := 33) C 0 1 (by decide) (fun _ => rfl) kw_152 rfl dX13_cannotSell_33 ?_
        refine T_iconst (pc := 36) C dX13_cannotSell_36 ?_
        refine Tm_iald (pc := 37) C 1 3 ⟨by decide, by decide⟩ ⟨by decide, by decide⟩ rfl dX13_cannotSell_37 (fun r7 => ?_)
        refine T_bipush (pc := 38) C dX13_cannotSell_38 (by decide) ?_
        refine T_icmp_ne (pc := 40) C 45 dX13_cannotSell_40 rfl r7 (rngL rfl) (fun c8 => ?_) (fun c8 => ?_)
        · refine T_aload_n (pc := 45) C dX13_cannotSell_45 rfl 0 rfl ?_
          refine T_iload_n (pc := 46) C dX13_cannotSell_46 rfl 1 rfl ?_
          refine T_iload_n (pc := 47) C dX13_cannotSell_47 rfl 2 rfl ?_
          refine T_iload_n (pc := 48) C dX13_cannotSell_48 rfl 3 rfl ?_
          refine T_iload (pc := 49) C dX13_cannotSell_49 4 rfl ?_
          refine T_callVip (pc := 51) C [vi x1, vi x2, vi x3, vi x4] [] (fun o h9 hw => ct_X13_free N σ x1 x2 x3 x4 h1 h2 h3 h4 hw o h9) kw_284 cm_X13_free rcm rfl rfl (Nat.le_of_ble_eq_true rfl) (by decide) (a' := 0) (b' := 0) ⟨rfl, rfl⟩ dX13_cannotSell_51 (fun v9 hv9 => ?_)
          refine T_if_ne (pc := 54) C 61 dX13_cannotSell_54 rfl hv9.1 (fun c10 => ?_) (fun c10 => ?_)
          · refine T_iconst (pc := 61) C dX13_cannotSell_61 ?_
            exact T_iret (pc := 62) 0 (fun h9 => h9) (rngL rfl) (nar_I _) (by decide) dX13_cannotSell_62
          · refine T_iconst (pc := 57) C dX13_cannotSell_57 ?_
            refine T_goto (pc := 58) C 62 dX13_cannotSell_58 rfl ?_
            exact T_iret (pc := 62) 4 (fun h9 => h9) (rngL rfl) (nar_I _) (by decide) dX13_cannotSell_62
        · refine T_iconst (pc := 43) C dX13_cannotSell_43 ?_
          exact T_iret (pc := 44) 3 (fun h9 => h9) (rngL rfl) (nar_I _) (by decide) dX13_cannotSell_44
    · refine T_iconst (pc := 22) C dX13_cannotSell_22 ?_
      exact T_iret (pc := 23) 2 (fun h9 => h9) (rngL rfl) (nar_I _) (by decide) dX13_cannotSell_23
  · refine T_iconst (pc := 8) C dX13_cannotSell_8 ?_
    exact T_iret (pc := 9) 1 (fun h9 => h9) (rngL rfl) (nar_I _) (by decide) dX13_cannotSell_9

abbrev rm_X13_sells : Room := ⟨0, 0, 0, 0⟩
theorem cm_X13_sells : cmV yX13_sells cX13_sells 7 (some .int) 4 := ⟨kw_52, kw_145, ⟨by decide +kernel, by decide +kernel, by decide +kernel⟩, kw_287, kw_288⟩
def f_X13_sells (σ : Sm) (x1 : Int) (x2 : Int) (x3 : Int) (x4 : Int) : Option (Sm × Int) :=
  bl (212 + (8 * (σ 1 3))) fun v2 => (if (σ 1 6) = 1 then bl ((x4 - x3) * 2) fun v31 => if 0 ≤ (v2 + 0) ∧ (v2 + 0) < 340 then bl (upm σ 1 (v2 + 0).toNat (σ 1 4)) fun s34 => if 0 ≤ (v2 + 1) ∧ (v2 + 1) < 340 then bl (upm s34 1 (v2 + 1).toNat x1) fun s36 => if 0 ≤ (v2 + 2) ∧ (v2 + 2) < 340 then bl (upm s36 1 (v2 + 2).toNat x2) fun s38 => if 0 ≤ (v2 + 3) ∧ (v2 + 3) < 340 then bl (upm s38 1 (v2 + 3).toNat x3) fun s40 => if 0 ≤ (v2 + 4) ∧ (v2 + 4) < 340 then bl (upm s40 1 (v2 + 4).toNat x4) fun s42 => if 0 ≤ (v2 + 5) ∧ (v2 + 5) < 340 then if rng v31 then bl (upm s42 1 (v2 + 5).toNat v31) fun s45 => if rng ((s45 1 3) + 1) then bl (upm s45 1 3 ((s45 1 3) + 1)) fun s48 => if rng ((s48 1 4) + 1) then bl (upm s48 1 4 ((s48 1 4) + 1)) fun s51 => if rng ((s51 1 7) + v31) then bl (upm s51 1 7 ((s51 1 7) + v31)) fun s54 => if rng ((s54 1 4) - 1) then some (s54, ((s54 1 4) - 1)) else none else none else none else none else none else none else none else none else none else none else none else bl ((x4 - x3) * 3) fun v5 => if 0 ≤ (v2 + 0) ∧ (v2 + 0) < 340 then bl (upm σ 1 (v2 + 0).toNat (σ 1 4)) fun s8 => if 0 ≤ (v2 + 1) ∧ (v2 + 1) < 340 then bl (upm s8 1 (v2 + 1).toNat x1) fun s10 => if 0 ≤ (v2 + 2) ∧ (v2 + 2) < 340 then bl (upm s10 1 (v2 + 2).toNat x2) fun s12 => if 0 ≤ (v2 + 3) ∧ (v2 + 3) < 340 then bl (upm s12 1 (v2 + 3).toNat x3) fun s14 => if 0 ≤ (v2 + 4) ∧ (v2 + 4) < 340 then bl (upm s14 1 (v2 + 4).toNat x4) fun s16 => if 0 ≤ (v2 + 5) ∧ (v2 + 5) < 340 then if rng v5 then bl (upm s16 1 (v2 + 5).toNat v5) fun s19 => if rng ((s19 1 3) + 1) then bl (upm s19 1 3 ((s19 1 3) + 1)) fun s22 => if rng ((s22 1 4) + 1) then bl (upm s22 1 4 ((s22 1 4) + 1)) fun s25 => if rng ((s25 1 7) + v5) then bl (upm s25 1 7 ((s25 1 7) + v5)) fun s28 => if rng ((s28 1 4) - 1) then some (s28, ((s28 1 4) - 1)) else none else none else none else none else none else none else none else none else none else none else none)
theorem ct_X13_sells {l : Launch} {cy : ClassId} {ad : Nat → Nat} {G : va_G} (σ : Sm) (x1 : Int) (x2 : Int) (x3 : Int) (x4 : Int) (h1 : rng x1) (h2 : rng x2) (h3 : rng x3) (h4 : rng x4) (hw : wfm σ) (o : Sm × Int) (h : f_X13_sells σ x1 x2 x3 x4 = some o) : CtI l yX13_sells cX13_sells 7 (some .int) rm_X13_sells (wlm cy ad) wfm G (tym cy) [.ref (ad 0), vi x1, vi x2, vi x3, vi x4] σ o.1 o.2 := by
  refine ctI_of (by decide) (Nat.le_of_ble_eq_true rfl) hw o o h (fun X Y w => EndI X Y cX13_sells rm_X13_sells .int w) (fun _ _ h => h) (fun X A Q hX C => ?_)
  replace C : Cx X (Ym cy ad G A 7 Q) cX13_sells RX13 (some .int) rm_X13_sells (tym cy) := C
  show T X (Ym cy ad G A 7 Q) (fun w => EndI X (Ym cy ad G A 7 Q) cX13_sells rm_X13_sells .int w) 0 0 0 [(0, .ref (ad 0)), (1, vi x1), (2, vi x2), (3, vi x3), (4, vi x4)] [] σ (f_X13_sells σ x1 x2 x3 x4)
  unfold f_X13_sells
  refine T_sipush (pc := 0) C dX13_sells_0 (by decide) ?_
  refine T_bipush (pc := 3) C dX13_sells_3 (by decide) ?_
  refine T_aload_n (pc := 5) C dX13_sells_5 rfl 0 rfl ?_
  refine Tm_getA (pc := 6) C 0 1 (by decide) (fun _ => rfl) kw_152 rfl dX13_sells_6 ?_
  refine T_iconst (pc := 9) C dX13_sells_9 ?_
  refine Tm_iald (pc := 10) C 1 3 ⟨by decide, by decide⟩ ⟨by decide, by decide⟩ rfl dX13_sells_10 (fun r1 => ?_)
  refine T_imul (pc := 11) C dX13_sells_11 ?_
  refine T_iadd (pc := 12) C dX13_sells_12 ?_
  refine T_blN (fun v2 => ?_)
  refine T_istore (pc := 13) (L' := [(5, vi v2), (0, .ref (ad 0)), (1, vi x1), (2, vi x2), (3, vi x3), (4, vi x4)]) C dX13_sells_13 (Nat.le_of_ble_eq_true rfl) rfl ?_
  refine T_iload (pc := 15) C dX13_sells_15 5 rfl ?_
  refine T_iload_n (pc := 17) C dX13_sells_17 rfl 4 rfl ?_
  refine T_isub (pc := 18) C dX13_sells_18 ?_
  refine T_aload_n (pc := 19) C dX13_sells_19 rfl 1 rfl ?_
  refine Tm_getA (pc := 20) C 0 1 (by decide) (fun _ => rfl) kw_152 rfl dX13_sells_20 ?_
  refine T_bipush (pc := 23) C dX13_sells_23 (by decide) ?_
  refine Tm_iald (pc := 25) C 1 6 ⟨by decide, by decide⟩ ⟨by decide, by decide⟩ rfl dX13_sells_25 (fun r3 => ?_)
  refine T_iconst (pc := 26) C dX13_sells_26 ?_
  refine T_icmp_ne (pc := 27) C 34 dX13_sells_27 rfl r3 (rngL rfl) (fun c4 => ?_) (fun c4 => ?_)
  · refine T_iconst (pc := 34) C dX13_sells_34 ?_
    refine T_imul (pc := 35) C dX13_sells_35 ?_
    refine T_blN (fun v5 => ?_)
    refine T_istore (pc := 36) (L' := [(6, vi v5), (5, vi v2), (0, .ref (ad 0)), (1, vi x1), (2, vi x2), (3, vi x3), (4, vi x4)]) C dX13_sells_36 (Nat.le_of_ble_eq_true rfl) rfl ?_
    refine T_aload_n (pc := 38) C dX13_sells_38 rfl 2 rfl ?_
    refine Tm_getA (pc := 39) C 0 1 (by decide) (fun _ => rfl) kw_152 rfl dX13_sells_39 ?_
    refine T_iload (pc := 42) C dX13_sells_42 1 rfl ?_
    refine T_iconst (pc := 44) C dX13_sells_44 ?_
    refine T_iadd (pc := 45) C dX13_sells_45 ?_
    refine T_aload_n (pc := 46) C dX13_sells_46 rfl 2 rfl ?_
    refine Tm_getA (pc := 47) C 0 1 (by decide) (fun _ => rfl) kw_152 rfl dX13_sells_47 ?_
    refine T_iconst (pc := 50) C dX13_sells_50 ?_
    refine Tm_iald (pc := 51) C 1 4 ⟨by decide, by decide⟩ ⟨by decide, by decide⟩ rfl dX13_sells_51 (fun r6 => ?_)
    refine T_guard (fun g7 => ?_)
    refine Tm_iast (pc := 52) C 1 (v2 + 0).toNat ⟨by decide, by decide⟩ g7 rfl r6 dX13_sells_52 ?_
    refine T_blS (fun s8 => ?_)
    refine T_aload_n (pc := 53) C dX13_sells_53 rfl 2 rfl ?_
    refine Tm_getA (pc := 54) C 0 1 (by decide) (fun _ => rfl) kw_152 rfl dX13_sells_54 ?_
    refine T_iload (pc := 57) C dX13_sells_57 1 rfl ?_
    refine T_iconst (pc := 59) C dX13_sells_59 ?_
    refine T_iadd (pc := 60) C dX13_sells_60 ?_
    refine T_iload_n (pc := 61) C dX13_sells_61 rfl 3 rfl ?_
    refine T_guard (fun g9 => ?_)
    refine Tm_iast (pc := 62) C 1 (v2 + 1).toNat ⟨by decide, by decide⟩ g9 rfl h1 dX13_sells_62 ?_
    refine T_blS (fun s10 => ?_)
    refine T_aload_n (pc := 63) C dX13_sells_63 rfl 2 rfl ?_
    refine Tm_getA (pc := 64) C 0 1 (by decide) (fun _ => rfl) kw_152 rfl dX13_sells_64 ?_
    refine T_iload (pc := 67) C dX13_sells_67 1 rfl ?_
    refine T_iconst (pc := 69) C dX13_sells_69 ?_
    refine T_iadd (pc := 70) C dX13_sells_70 ?_
    refine T_iload_n (pc := 71) C dX13_sells_71 rfl 4 rfl ?_
    refine T_guard (fun g11 => ?_)
    refine Tm_iast (pc := 72) C 1 (v2 + 2).toNat ⟨by decide, by decide⟩ g11 rfl h2 dX13_sells_72 ?_
    refine T_blS (fun s12 => ?_)
    refine T_aload_n (pc := 73) C dX13_sells_73 rfl 2 rfl ?_
    refine Tm_getA (pc := 74) C 0 1 (by decide) (fun _ => rfl) kw_152 rfl dX13_sells_74 ?_
    refine T_iload (pc := 77) C dX13_sells_77 1 rfl ?_
    refine T_iconst (pc := 79) C dX13_sells_79 ?_
    refine T_iadd (pc := 80) C dX13_sells_80 ?_
    refine T_iload_n (pc := 81) C dX13_sells_81 rfl 5 rfl ?_
    refine T_guard (fun g13 => ?_)
    refine Tm_iast (pc := 82) C 1 (v2 + 3).toNat ⟨by decide, by decide⟩ g13 rfl h3 dX13_sells_82 ?_
    refine T_blS (fun s14 => ?_)
    refine T_aload_n (pc := 83) C dX13_sells_83 rfl 2 rfl ?_
    refine Tm_getA (pc := 84) C 0 1 (by decide) (fun _ => rfl) kw_152 rfl dX13_sells_84 ?_
    refine T_iload (pc := 87) C dX13_sells_87 1 rfl ?_
    refine T_iconst (pc := 89) C dX13_sells_89 ?_
    refine T_iadd (pc := 90) C dX13_sells_90 ?_
    refine T_iload (pc := 91) C dX13_sells_91 6 rfl ?_
    refine T_guard (fun g15 => ?_)
    refine Tm_iast (pc := 93) C 1 (v2 + 4).toNat ⟨by decide, by decide⟩ g15 rfl h4 dX13_sells_93 ?_
    refine T_blS (fun s16 => ?_)
    refine T_aload_n (pc := 94) C dX13_sells_94 rfl 2 rfl ?_
    refine Tm_getA (pc := 95) C 0 1 (by decide) (fun _ => rfl) kw_152 rfl dX13_sells_95 ?_
    refine T_iload (pc := 98) C dX13_sells_98 1 rfl ?_
    refine T_iconst (pc := 100) C dX13_sells_100 ?_
    refine T_iadd (pc := 101) C dX13_sells_101 ?_
    refine T_iload (pc := 102) C dX13_sells_102 0 rfl ?_
    refine T_guard (fun g17 => ?_)
    refine T_guard (fun g18 => ?_)
    refine Tm_iast (pc := 104) C 1 (v2 + 5).toNat ⟨by decide, by decide⟩ g17 rfl g18 dX13_sells_104 ?_
    refine T_blS (fun s19 => ?_)
    refine T_aload_n (pc := 105) C dX13_sells_105 rfl 2 rfl ?_
    refine Tm_getA (pc := 106) C 0 1 (by decide) (fun _ => rfl) kw_152 rfl dX13_sells_106 ?_
    refine T_iconst (pc := 109) C dX13_sells_109 ?_
    refine T_dup2 (pc := 110) C dX13_sells_110 rfl rfl ?_
    refine Tm_iald (pc := 111) C 1 3 ⟨by decide, by decide⟩ ⟨by decide, by decide⟩ rfl dX13_sells_111 (fun r20 => ?_)
    refine T_iconst (pc := 112) C dX13_sells_112 ?_
    refine T_iadd (pc := 113) C dX13_sells_113 ?_
    refine T_guard (fun g21 => ?_)
    refine Tm_iast (pc := 114) C 1 3 ⟨by decide, by decide⟩ ⟨by decide, by decide⟩ rfl g21 dX13_sells_114 ?_
    refine T_blS (fun s22 => ?_)
    refine T_aload_n (pc := 115) C dX13_sells_115 rfl 2 rfl ?_
    refine Tm_getA (pc := 116) C 0 1 (by decide) (fun _ => rfl) kw_152 rfl dX13_sells_116 ?_
    refine T_iconst (pc := 119) C dX13_sells_119 ?_
    refine T_dup2 (pc := 120) C dX13_sells_120 rfl rfl ?_
    refine Tm_iald (pc := 121) C 1 4 ⟨by decide, by decide⟩ ⟨by decide, by decide⟩ rfl dX13_sells_121 (fun r23 => ?_)
    refine T_iconst (pc := 122) C dX13_sells_122 ?_
    refine T_iadd (pc := 123) C dX13_sells_123 ?_
    refine T_guard (fun g24 => ?_)
    refine Tm_iast (pc := 124) C 1 4 ⟨by decide, by decide⟩ ⟨by decide, by decide⟩ rfl g24 dX13_sells_124 ?_
    refine T_blS (fun s25 => ?_)
    refine T_aload_n (pc := 125) C dX13_sells_125 rfl 2 rfl ?_
    refine Tm_getA (pc := 126) C 0 1 (by decide) (fun _ => rfl) kw_152 rfl dX13_sells_126 ?_
    refine T_bipush (pc := 129) C dX13_sells_129 (by decide) ?_
    refine T_dup2 (pc := 131) C dX13_sells_131 rfl rfl ?_
    refine Tm_iald (pc := 132) C 1 7 ⟨by decide, by decide⟩ ⟨by decide, by decide⟩ rfl dX13_sells_132 (fun r26 => ?_)
    refine T_iload (pc := 133) C dX13_sells_133 0 rfl ?_
    refine T_iadd (pc := 135) C dX13_sells_135 ?_
    refine T_guard (fun g27 => ?_)
    refine Tm_iast (pc := 136) C 1 7 ⟨by decide, by decide⟩ ⟨by decide, by decide⟩ rfl g27 dX13_sells_136 ?_
    refine T_blS (fun s28 => ?_)
    refine T_aload_n (pc := 137) C dX13_sells_137 rfl 2 rfl ?_
    refine Tm_getA (pc := 138) C 0 1 (by decide) (fun _ => rfl) kw_152 rfl dX13_sells_138 ?_
    refine T_iconst (pc := 141) C dX13_sells_141 ?_
    refine Tm_iald (pc := 142) C 1 4 ⟨by decide, by decide⟩ ⟨by decide, by decide⟩ rfl dX13_sells_142 (fun r29 => ?_)
    refine T_iconst (pc := 143) C dX13_sells_143 ?_
    refine T_isub (pc := 144) C dX13_sells_144 ?_
    refine T_guard (fun g30 => ?_)
    exact T_iret (pc := 145) (s28, ((s28 1 4) - 1)) (fun h9 => h9) g30 (nar_I _) (by decide) dX13_sells_145
  · refine T_iconst (pc := 30) C dX13_sells_30 ?_
    refine T_goto (pc := 31) C 35 dX13_sells_31 rfl ?_
    refine T_imul (pc := 35) C dX13_sells_35 ?_
    refine T_blN (fun v31 => ?_)
    refine T_istore (pc := 36) (L' := [(6, vi v31), (5, vi v2), (0, .ref (ad 0)), (1, vi x1), (2, vi x2), (3, vi x3), (4, vi x4)]) C dX13_sells_36 (Nat.le_of_ble_eq_true rfl) rfl ?_
    refine T_aload_n (pc := 38) C dX13_sells_38 rfl 2 rfl ?_
    refine Tm_getA (pc := 39) C 0 1 (by decide) (fun _ => rfl) kw_152 rfl dX13_sells_39 ?_
    refine T_iload (pc := 42) C dX13_sells_42 1 rfl ?_
    refine T_iconst (pc := 44) C dX13_sells_44 ?_
    refine T_iadd (pc := 45) C dX13_sells_45 ?_
    refine T_aload_n (pc := 46) C dX13_sells_46 rfl 2 rfl ?_
    refine Tm_getA (pc := 47) C 0 1 (by decide) (fun _ => rfl) kw_152 rfl dX13_sells_47 ?_
    refine T_iconst (pc := 50) C dX13_sells_50 ?_
    refine Tm_iald (pc := 51) C 1 4 ⟨by decide, by decide⟩ ⟨by decide, by decide⟩ rfl dX13_sells_51 (fun r32 => ?_)
    refine T_guard (fun g33 => ?_)
    refine Tm_iast (pc := 52) C 1 (v2 + 0).toNat ⟨by decide, by decide⟩ g33 rfl r32 dX13_sells_52 ?_
    refine T_blS (fun s34 => ?_)
    refine T_aload_n (pc := 53) C dX13_sells_53 rfl 2 rfl ?_
    refine Tm_getA (pc := 54) C 0 1 (by decide) (fun _ => rfl) kw_152 rfl dX13_sells_54 ?_
    refine T_iload (pc := 57) C dX13_sells_57 1 rfl ?_
    refine T_iconst (pc := 59) C dX13_sells_59 ?_
    refine T_iadd (pc := 60) C dX13_sells_60 ?_
    refine T_iload_n (pc := 61) C dX13_sells_61 rfl 3 rfl ?_
    refine T_guard (fun g35 => ?_)
    refine Tm_iast (pc := 62) C 1 (v2 + 1).toNat ⟨by decide, by decide⟩ g35 rfl h1 dX13_sells_62 ?_
    refine T_blS (fun s36 => ?_)
    refine T_aload_n (pc := 63) C dX13_sells_63 rfl 2 rfl ?_
    refine Tm_getA (pc := 64) C 0 1 (by decide) (fun _ => rfl) kw_152 rfl dX13_sells_64 ?_
    refine T_iload (pc := 67) C dX13_sells_67 1 rfl ?_
    refine T_iconst (pc := 69) C dX13_sells_69 ?_
    refine T_iadd (pc := 70) C dX13_sells_70 ?_
    refine T_iload_n (pc := 71) C dX13_sells_71 rfl 4 rfl ?_
    refine T_guard (fun g37 => ?_)
    refine Tm_iast (pc := 72) C 1 (v2 + 2).toNat ⟨by decide, by decide⟩ g37 rfl h2 dX13_sells_72 ?_
    refine T_blS (fun s38 => ?_)
    refine T_aload_n (pc := 73) C dX13_sells_73 rfl 2 rfl ?_
    refine Tm_getA (pc := 74) C 0 1 (by decide) (fun _ => rfl) kw_152 rfl dX13_sells_74 ?_
    refine T_iload (pc := 77) C dX13_sells_77 1 rfl ?_
    refine T_iconst (pc := 79) C dX13_sells_79 ?_
    refine T_iadd (pc := 80) C dX13_sells_80 ?_
    refine T_iload_n (pc := 81) C dX13_sells_81 rfl 5 rfl ?_
    refine T_guard (fun g39 => ?_)
    refine Tm_iast (pc := 82) C 1 (v2 + 3).toNat ⟨by decide, by decide⟩ g39 rfl h3 dX13_sells_82 ?_
    refine T_blS (fun s40 => ?_)
    refine T_aload_n (pc := 83) C dX13_sells_83 rfl 2 rfl ?_
    refine Tm_getA (pc := 84) C 0 1 (by decide) (fun _ => rfl) kw_152 rfl dX13_sells_84 ?_
    refine T_iload (pc := 87) C dX13_sells_87 1 rfl ?_
    refine T_iconst (pc := 89) C dX13_sells_89 ?_
    refine T_iadd (pc := 90) C dX13_sells_90 ?_
    refine T_iload (pc := 91) C dX13_sells_91 6 rfl ?_
    refine T_guard (fun g41 => ?_)
    refine Tm_iast (pc := 93) C 1 (v2 + 4).toNat ⟨by decide, by decide⟩ g41 rfl h4 dX13_sells_93 ?_
    refine T_blS (fun s42 => ?_)
    refine T_aload_n (pc := 94) C dX13_sells_94 rfl 2 rfl ?_
    refine Tm_getA (pc := 95) C 0 1 (by decide) (fun _ => rfl) kw_152 rfl dX13_sells_95 ?_
    refine T_iload (pc := 98) C dX13_sells_98 1 rfl ?_
    refine T_iconst (pc := 100) C dX13_sells_100 ?_
    refine T_iadd (pc := 101) C dX13_sells_101 ?_
    refine T_iload (pc := 102) C dX13_sells_102 0 rfl ?_
    refine T_guard (fun g43 => ?_)
    refine T_guard (fun g44 => ?_)
    refine Tm_iast (pc := 104) C 1 (v2 + 5).toNat ⟨by decide, by decide⟩ g43 rfl g44 dX13_sells_104 ?_
    refine T_blS (fun s45 => ?_)
    refine T_aload_n (pc := 105) C dX13_sells_105 rfl 2 rfl ?_
    refine Tm_getA (pc := 106) C 0 1 (by decide) (fun _ => rfl) kw_152 rfl dX13_sells_106 ?_
    refine T_iconst (pc := 109) C dX13_sells_109 ?_
    refine T_dup2 (pc := 110) C dX13_sells_110 rfl rfl ?_
    refine Tm_iald (pc := 111) C 1 3 ⟨by decide, by decide⟩ ⟨by decide, by decide⟩ rfl dX13_sells_111 (fun r46 => ?_)
    refine T_iconst (pc := 112) C dX13_sells_112 ?_
    refine T_iadd (pc := 113) C dX13_sells_113 ?_
    refine T_guard (fun g47 => ?_)
    refine Tm_iast (pc := 114) C 1 3 ⟨by decide, by decide⟩ ⟨by decide, by decide⟩ rfl g47 dX13_sells_114 ?_
    refine T_blS (fun s48 => ?_)
    refine T_aload_n (pc := 115) C dX13_sells_115 rfl 2 rfl ?_
    refine Tm_getA (pc := 116) C 0 1 (by decide) (fun _ => rfl) kw_152 rfl dX13_sells_116 ?_
    refine T_iconst (pc := 119) C dX13_sells_119 ?_
    refine T_dup2 (pc := 120) C dX13_sells_120 rfl rfl ?_
    refine Tm_iald (pc := 121) C 1 4 ⟨by decide, by decide⟩ ⟨by decide, by decide⟩ rfl dX13_sells_121 (fun r49 => ?_)
    refine T_iconst (pc := 122) C dX13_sells_122 ?_
    refine T_iadd (pc := 123) C dX13_sells_123 ?_
    refine T_guard (fun g50 => ?_)
    refine Tm_iast (pc := 124) C 1 4 ⟨by decide, by decide⟩ ⟨by decide, by decide⟩ rfl g50 dX13_sells_124 ?_
    refine T_blS (fun s51 => ?_)
    refine T_aload_n (pc := 125) C dX13_sells_125 rfl 2 rfl ?_
    refine Tm_getA (pc := 126) C 0 1 (by decide) (fun _ => rfl) kw_152 rfl dX13_sells_126 ?_
    refine T_bipush (pc := 129) C dX13_sells_129 (by decide) ?_
    refine T_dup2 (pc := 131) C dX13_sells_131 rfl rfl ?_
    refine Tm_iald (pc := 132) C 1 7 ⟨by decide, by decide⟩ ⟨by decide, by decide⟩ rfl dX13_sells_132 (fun r52 => ?_)
    refine T_iload (pc := 133) C dX13_sells_133 0 rfl ?_
    refine T_iadd (pc := 135) C dX13_sells_135 ?_
    refine T_guard (fun g53 => ?_)
    refine Tm_iast (pc := 136) C 1 7 ⟨by decide, by decide⟩ ⟨by decide, by decide⟩ rfl g53 dX13_sells_136 ?_
    refine T_blS (fun s54 => ?_)
    refine T_aload_n (pc := 137) C dX13_sells_137 rfl 2 rfl ?_
    refine Tm_getA (pc := 138) C 0 1 (by decide) (fun _ => rfl) kw_152 rfl dX13_sells_138 ?_
    refine T_iconst (pc := 141) C dX13_sells_141 ?_
    refine Tm_iald (pc := 142) C 1 4 ⟨by decide, by decide⟩ ⟨by decide, by decide⟩ rfl dX13_sells_142 (fun r55 => ?_)
    refine T_iconst (pc := 143) C dX13_sells_143 ?_
    refine T_isub (pc := 144) C dX13_sells_144 ?_
    refine T_guard (fun g56 => ?_)
    exact T_iret (pc := 145) (s54, ((s54 1 4) - 1)) (fun h9 => h9) g56 (nar_I _) (by decide) dX13_sells_145

abbrev rm_X13_sellTicket : Room := ⟨4, 0, 0, 97⟩
theorem cm_X13_sellTicket : cmV yX13_sellTicket cX13_sellTicket 6 (some .int) 4 := ⟨kw_53, kw_145, ⟨by decide +kernel, by decide +kernel, by decide +kernel⟩, kw_291, kw_292⟩
def f_X13_sellTicket (N : Nat) (σ : Sm) (x1 : Int) (x2 : Int) (x3 : Int) (x4 : Int) : Option (Sm × Int) :=
  (f_X13_begin N σ).bind fun s1 => (f_X13_cannotSell N s1 x1 x2 x3 x4).bind fun v2 => (if v2 ≤ 0 then (f_X13_sells s1 x1 x2 x3 x4).bind fun v4 => (f_X13_commit N v4.1 v4.2).bind fun v5 => some (v5.1, v5.2) else (f_X13_fail s1 v2).bind fun v6 => some (v6.1, v6.2))
theorem ct_X13_sellTicket {l : Launch} {cy : ClassId} {ad : Nat → Nat} {G : va_G} (N : Nat) (σ : Sm) (x1 : Int) (x2 : Int) (x3 : Int) (x4 : Int) (h1 : rng x1) (h2 : rng x2) (h3 : rng x3) (h4 : rng x4) (hw : wfm σ) (o : Sm × Int) (h : f_X13_sellTicket N σ x1 x2 x3 x4 = some o) : CtI l yX13_sellTicket cX13_sellTicket 6 (some .int) rm_X13_sellTicket (wlm cy ad) wfm G (tym cy) [.ref (ad 0), vi x1, vi x2, vi x3, vi x4] σ o.1 o.2 := by
  refine ctI_of (by decide) (Nat.le_of_ble_eq_true rfl) hw o o h (fun X Y w => EndI X Y cX13_sellTicket rm_X13_sellTicket .int w) (fun _ _ h => h) (fun X A Q hX C => ?_)
  replace C : Cx X (Ym cy ad G A 6 Q) cX13_sellTicket RX13 (some .int) rm_X13_sellTicket (tym cy) := C
  show T X (Ym cy ad G A 6 Q) (fun w => EndI X (Ym cy ad G A 6 Q) cX13_sellTicket rm_X13_sellTicket .int w) 0 0 0 [(0, .ref (ad 0)), (1, vi x1), (2, vi x2), (3, vi x3), (4, vi x4)] [] σ (f_X13_sellTicket N σ x1 x2 x3 x4)
  unfold f_X13_sellTicket
  refine T_aload_n (pc := 0) C dX13_sellTicket_0 rfl 0 rfl ?_
  refine T_callVv (pc := 1) C [] [] (fun o h9 hw => ct_X13_begin N σ hw o h9) kw_177 cm_X13_begin rcm rfl rfl (Nat.le_of_ble_eq_true rfl) (by decide) (a' := 0) (b' := 0) ⟨rfl, rfl⟩ dX13_sellTicket_1 (fun s1 => ?_)
  refine T_aload_n (pc := 4) C dX13_sellTicket_4 rfl 0 rfl ?_
  refine T_iload_n (pc := 5) C dX13_sellTicket_5 rfl 1 rfl ?_
  refine T_iload_n (pc := 6) C dX13_sellTicket_6 rfl 2 rfl ?_
  refine T_iload_n (pc := 7) C dX13_sellTicket_7 rfl 3 rfl ?_
  refine T_iload (pc := 8) C dX13_sellTicket_8 4 rfl ?_
  refine T_callVip (pc := 10) C [vi x1, vi x2, vi x3, vi x4] [] (fun o h9 hw => ct_X13_cannotSell N s1 x1 x2 x3 x4 h1 h2 h3 h4 hw o h9) kw_289 cm_X13_cannotSell rcm rfl rfl (Nat.le_of_ble_eq_true rfl) (by decide) (a' := 0) (b' := 0) ⟨rfl, rfl⟩ dX13_sellTicket_10 (fun v2 hv2 => ?_)
  refine T_istore (pc := 13) (L' := [(5, vi v2), (0, .ref (ad 0)), (1, vi x1), (2, vi x2), (3, vi x3), (4, vi x4)]) C dX13_sellTicket_13 (Nat.le_of_ble_eq_true rfl) rfl ?_
  refine T_iload (pc := 15) C dX13_sellTicket_15 0 rfl ?_
  refine T_if_le (pc := 17) C 29 dX13_sellTicket_17 rfl hv2.1 (fun c3 => ?_) (fun c3 => ?_)
  · refine T_aload_n (pc := 29) C dX13_sellTicket_29 rfl 1 rfl ?_
    refine T_aload_n (pc := 30) C dX13_sellTicket_30 rfl 1 rfl ?_
    refine T_iload_n (pc := 31) C dX13_sellTicket_31 rfl 2 rfl ?_
    refine T_iload_n (pc := 32) C dX13_sellTicket_32 rfl 3 rfl ?_
    refine T_iload_n (pc := 33) C dX13_sellTicket_33 rfl 4 rfl ?_
    refine T_iload (pc := 34) C dX13_sellTicket_34 5 rfl ?_
    refine T_callVi (pc := 36) C [vi x1, vi x2, vi x3, vi x4] [.ref (ad 0)] (fun o h9 hw => ct_X13_sells s1 x1 x2 x3 x4 h1 h2 h3 h4 hw o h9) kw_290 cm_X13_sells rcm rfl rfl (Nat.le_of_ble_eq_true rfl) (by decide) (a' := 0) (b' := 0) ⟨rfl, rfl⟩ dX13_sellTicket_36 (fun v4 hv4 => ?_)
    refine T_callVi (pc := 39) C [vi v4.2] [] (fun o h9 hw => ct_X13_commit N v4.1 v4.2 hv4.1 hw o h9) kw_180 cm_X13_commit rcm rfl rfl (Nat.le_of_ble_eq_true rfl) (by decide) (a' := 0) (b' := 0) ⟨rfl, rfl⟩ dX13_sellTicket_39 (fun v5 hv5 => ?_)
    exact T_iret (pc := 42) (v5.1, v5.2) (fun h9 => h9) hv5.1 (nar_I _) (by decide) dX13_sellTicket_42
  · refine T_aload_n (pc := 20) C dX13_sellTicket_20 rfl 1 rfl ?_
    refine T_iload (pc := 21) C dX13_sellTicket_21 0 rfl ?_
    refine T_callVi (pc := 23) C [vi v2] [] (fun o h9 hw => ct_X13_fail s1 v2 hv2.1 hw o h9) kw_181 cm_X13_fail rcm rfl rfl (Nat.le_of_ble_eq_true rfl) (by decide) (a' := 0) (b' := 0) ⟨rfl, rfl⟩ dX13_sellTicket_23 (fun v6 hv6 => ?_)
    refine T_goto (pc := 26) C 42 dX13_sellTicket_26 rfl ?_
    exact T_iret (pc := 42) (v6.1, v6.2) (fun h9 => h9) hv6.1 (nar_I _) (by decide) dX13_sellTicket_42

abbrev rm_X13_removeTicket : Room := ⟨0, 0, 0, 0⟩
theorem cm_X13_removeTicket : cmV yX13_removeTicket cX13_removeTicket 3 none 1 := ⟨kw_54, kw_145, ⟨by decide +kernel, by decide +kernel, by decide +kernel⟩, kw_293, kw_294⟩
def f_X13_removeTicket_19 : Nat → Sm → Int → Option (Sm)
  | 0, _, _ => none
  | n + 1, s0, x2 => if rng (212 + (8 * (s0 1 3))) then (if (212 + (8 * (s0 1 3))) ≤ x2 then some s0 else if 0 ≤ (x2 + 8) ∧ (x2 + 8) < 340 then if 0 ≤ x2 ∧ x2 < 340 then bl (upm s0 1 x2.toNat (s0 1 (x2 + 8).toNat)) fun s11 => f_X13_removeTicket_19 n s11 (x2 + 1) else none else none) else none
theorem lp_X13_removeTicket_19 {X : vjX} {A : Nat → Prop} {Q : State → Prop} {cy : ClassId} {ad : Nat → Nat} {G : va_G} (C : Cx X (Ym cy ad G A 3 Q) cX13_removeTicket RX13 none rm_X13_removeTicket (tym cy)) : ∀ (n : Nat) (s0 : Sm) (x2 : Int) (h2 : rng x2), T X (Ym cy ad G A 3 Q) (fun (q : Sm) => True → J X (Ym cy ad G A 3 Q) 0 0 57 [(0, .ref (ad 0))] [] q) 0 0 19 [(0, .ref (ad 0)), (2, vi x2)] [] s0 (f_X13_removeTicket_19 n s0 x2) := by
  intro n
  induction n with
  | zero => intro s0 x2 h2; exact T_none
  | succ n ih =>
    intro s0 x2 h2
    rw [f_X13_removeTicket_19]
    refine T_iload_n (pc := 19) C dX13_removeTicket_19 rfl 1 rfl ?_
    refine T_sipush (pc := 20) C dX13_removeTicket_20 (by decide) ?_
    refine T_bipush (pc := 23) C dX13_removeTicket_23 (by decide) ?_
    refine T_aload_n (pc := 25) C dX13_removeTicket_25 rfl 0 rfl ?_
    refine Tm_getA (pc := 26) C 0 1 (by decide) (fun _ => rfl) kw_152 rfl dX13_removeTicket_26 ?_
    refine T_iconst (pc := 29) C dX13_removeTicket_29 ?_
    refine Tm_iald (pc := 30) C 1 3 ⟨by decide, by decide⟩ ⟨by decide, by decide⟩ rfl dX13_removeTicket_30 (fun r5 => ?_)
    refine T_imul (pc := 31) C dX13_removeTicket_31 ?_
    refine T_iadd (pc := 32) C dX13_removeTicket_32 ?_
    refine T_guard (fun g6 => ?_)
    refine T_icmp_ge (pc := 33) C 57 dX13_removeTicket_33 rfl h2 g6 (fun c7 => ?_) (fun c7 => ?_)
    · refine T_sub (L' := [(0, .ref (ad 0))]) [0] rfl ?_
      exact T_exit (fun h9 => h9 trivial)
    · refine T_aload_n (pc := 36) C dX13_removeTicket_36 rfl 0 rfl ?_
      refine Tm_getA (pc := 37) C 0 1 (by decide) (fun _ => rfl) kw_152 rfl dX13_removeTicket_37 ?_
      refine T_iload_n (pc := 40) C dX13_removeTicket_40 rfl 1 rfl ?_
      refine T_aload_n (pc := 41) C dX13_removeTicket_41 rfl 0 rfl ?_
      refine Tm_getA (pc := 42) C 0 1 (by decide) (fun _ => rfl) kw_152 rfl dX13_removeTicket_42 ?_
      refine T_iload_n (pc := 45) C dX13_removeTicket_45 rfl 1 rfl ?_
      refine T_bipush (pc := 46) C dX13_removeTicket_46 (by decide) ?_
      refine T_iadd (pc := 48) C dX13_removeTicket_48 ?_
      refine T_guard (fun g8 => ?_)
      refine Tm_iald (pc := 49) C 1 (x2 + 8).toNat ⟨by decide, by decide⟩ g8 rfl dX13_removeTicket_49 (fun r9 => ?_)
      refine T_guard (fun g10 => ?_)
      refine Tm_iast (pc := 50) C 1 x2.toNat ⟨by decide, by decide⟩ g10 rfl r9 dX13_removeTicket_50 ?_
      refine T_blS (fun s11 => ?_)
      refine T_iinc (pc := 51) (L' := [(2, vi (x2 + 1)), (0, .ref (ad 0))]) C dX13_removeTicket_51 (Nat.le_of_ble_eq_true rfl) 1 rfl rfl ?_
      refine T_goto (pc := 54) C 19 dX13_removeTicket_54 rfl ?_
      refine T_sub (L' := [(0, .ref (ad 0)), (2, vi (x2 + 1))]) [1, 0] rfl ?_
      exact ih s11 (x2 + 1) (rng_inc c7 h2 g6)
def f_X13_removeTicket_59 : Nat → Sm → Int → Option (Sm)
  | 0, _, _ => none
  | n + 1, s0, x2 => (if 8 ≤ x2 then some s0 else if 0 ≤ ((212 + (8 * (s0 1 3))) + x2) ∧ ((212 + (8 * (s0 1 3))) + x2) < 340 then bl (upm s0 1 ((212 + (8 * (s0 1 3))) + x2).toNat 0) fun s21 => f_X13_removeTicket_59 n s21 (x2 + 1) else none)
theorem lp_X13_removeTicket_59 {X : vjX} {A : Nat → Prop} {Q : State → Prop} {cy : ClassId} {ad : Nat → Nat} {G : va_G} (C : Cx X (Ym cy ad G A 3 Q) cX13_removeTicket RX13 none rm_X13_removeTicket (tym cy)) : ∀ (n : Nat) (s0 : Sm) (x2 : Int) (h2 : rng x2), T X (Ym cy ad G A 3 Q) (fun (q : Sm) => True → J X (Ym cy ad G A 3 Q) 0 0 92 [] [] q) 0 0 59 [(0, .ref (ad 0)), (2, vi x2)] [] s0 (f_X13_removeTicket_59 n s0 x2) := by
  intro n
  induction n with
  | zero => intro s0 x2 h2; exact T_none
  | succ n ih =>
    intro s0 x2 h2
    rw [f_X13_removeTicket_59]
    refine T_iload_n (pc := 59) C dX13_removeTicket_59 rfl 1 rfl ?_
    refine T_bipush (pc := 60) C dX13_removeTicket_60 (by decide) ?_
    refine T_icmp_ge (pc := 62) C 92 dX13_removeTicket_62 rfl h2 (rngL rfl) (fun c18 => ?_) (fun c18 => ?_)
    · refine T_sub (L' := []) [] rfl ?_
      exact T_exit (fun h9 => h9 trivial)
    · refine T_aload_n (pc := 65) C dX13_removeTicket_65 rfl 0 rfl ?_
      refine Tm_getA (pc := 66) C 0 1 (by decide) (fun _ => rfl) kw_152 rfl dX13_removeTicket_66 ?_
      refine T_sipush (pc := 69) C dX13_removeTicket_69 (by decide) ?_
      refine T_bipush (pc := 72) C dX13_removeTicket_72 (by decide) ?_
      refine T_aload_n (pc := 74) C dX13_removeTicket_74 rfl 0 rfl ?_
      refine Tm_getA (pc := 75) C 0 1 (by decide) (fun _ => rfl) kw_152 rfl dX13_removeTicket_75 ?_
      refine T_iconst (pc := 78) C dX13_removeTicket_78 ?_
      refine Tm_iald (pc := 79) C 1 3 ⟨by decide, by decide⟩ ⟨by decide, by decide⟩ rfl dX13_removeTicket_79 (fun r19 => ?_)
      refine T_imul (pc := 80) C dX13_removeTicket_80 ?_
      refine T_iadd (pc := 81) C dX13_removeTicket_81 ?_
      refine T_iload_n (pc := 82) C dX13_removeTicket_82 rfl 1 rfl ?_
      refine T_iadd (pc := 83) C dX13_removeTicket_83 ?_
      refine T_iconst (pc := 84) C dX13_removeTicket_84 ?_
      refine T_guard (fun g20 => ?_)
      refine Tm_iast (pc := 85) C 1 ((212 + (8 * (s0 1 3))) + x2).toNat ⟨by decide, by decide⟩ g20 rfl (rngL rfl) dX13_removeTicket_85 ?_
      refine T_blS (fun s21 => ?_)
      refine T_iinc (pc := 86) (L' := [(2, vi (x2 + 1)), (0, .ref (ad 0))]) C dX13_removeTicket_86 (Nat.le_of_ble_eq_true rfl) 1 rfl rfl ?_
      refine T_goto (pc := 89) C 59 dX13_removeTicket_89 rfl ?_
      refine T_sub (L' := [(0, .ref (ad 0)), (2, vi (x2 + 1))]) [1, 0] rfl ?_
      exact ih s21 (x2 + 1) (rng_inc c18 h2 (rngL rfl))
def f_X13_removeTicket (N : Nat) (σ : Sm) (x1 : Int) : Option Sm :=
  if rng ((σ 1 3) - 1) then bl (upm σ 1 3 ((σ 1 3) - 1)) fun s3 => bl (212 + (8 * x1)) fun v4 => if rng v4 then (f_X13_removeTicket_19  N s3 v4).bind fun q13 => (f_X13_removeTicket_59  N q13 0).bind fun q22 => some q22 else none else none
theorem ct_X13_removeTicket {l : Launch} {cy : ClassId} {ad : Nat → Nat} {G : va_G} (N : Nat) (σ : Sm) (x1 : Int) (h1 : rng x1) (hw : wfm σ) (o : Sm) (h : f_X13_removeTicket N σ x1 = some o) : CtV l yX13_removeTicket cX13_removeTicket 3 rm_X13_removeTicket (wlm cy ad) wfm G (tym cy) [.ref (ad 0), vi x1] σ o := by
  refine ctV_of (by decide) (Nat.le_of_ble_eq_true rfl) hw o o h (fun X Y w => EndV X Y cX13_removeTicket rm_X13_removeTicket w) (fun _ _ h => h) (fun X A Q hX C => ?_)
  replace C : Cx X (Ym cy ad G A 3 Q) cX13_removeTicket RX13 none rm_X13_removeTicket (tym cy) := C
  show T X (Ym cy ad G A 3 Q) (fun w => EndV X (Ym cy ad G A 3 Q) cX13_removeTicket rm_X13_removeTicket w) 0 0 0 [(0, .ref (ad 0)), (1, vi x1)] [] σ (f_X13_removeTicket N σ x1)
  unfold f_X13_removeTicket
  refine T_aload_n (pc := 0) C dX13_removeTicket_0 rfl 0 rfl ?_
  refine Tm_getA (pc := 1) C 0 1 (by decide) (fun _ => rfl) kw_152 rfl dX13_removeTicket_1 ?_
  refine T_iconst (pc := 4) C dX13_removeTicket_4 ?_
  refine T_dup2 (pc := 5) C dX13_removeTicket_5 rfl rfl ?_
  refine Tm_iald (pc := 6) C 1 3 ⟨by decide, by decide⟩ ⟨by decide, by decide⟩ rfl dX13_removeTicket_6 (fun r1 => ?_)
  refine T_iconst (pc := 7) C dX13_removeTicket_7 ?_
  refine T_isub (pc := 8) C dX13_removeTicket_8 ?_
  refine T_guard (fun g2 => ?_)
  refine Tm_iast (pc := 9) C 1 3 ⟨by decide, by decide⟩ ⟨by decide, by decide⟩ rfl g2 dX13_removeTicket_9 ?_
  refine T_blS (fun s3 => ?_)
  refine T_sipush (pc := 10) C dX13_removeTicket_10 (by decide) ?_
  refine T_bipush (pc := 13) C dX13_removeTicket_13 (by decide) ?_
  refine T_iload_n (pc := 15) C dX13_removeTicket_15 rfl 1 rfl ?_
  refine T_imul (pc := 16) C dX13_removeTicket_16 ?_
  refine T_iadd (pc := 17) C dX13_removeTicket_17 ?_
  refine T_blN (fun v4 => ?_)
  refine T_istore_n (pc := 18) (L' := [(2, vi v4), (0, .ref (ad 0)), (1, vi x1)]) C dX13_removeTicket_18 rfl (Nat.le_of_ble_eq_true rfl) rfl ?_
  refine T_sub (L' := [(0, .ref (ad 0)), (2, vi v4)]) [1, 0] rfl ?_
  refine T_guard (fun g12 => ?_)
  refine T_loopE (lp_X13_removeTicket_19 C  N s3 v4 g12) (fun q13 hq13 => ?_)
  refine T_iconst (pc := 57) C dX13_removeTicket_57 ?_
  refine T_istore_n (pc := 58) (L' := [(2, vi 0), (0, .ref (ad 0))]) C dX13_removeTicket_58 rfl (Nat.le_of_ble_eq_true rfl) rfl ?_
  refine T_sub (L' := [(0, .ref (ad 0)), (2, vi 0)]) [1, 0] rfl ?_
  refine T_loopE (lp_X13_removeTicket_59 C  N q13 0 (rngL rfl)) (fun q22 hq22 => ?_)
  exact T_vret (pc := 92) q22 (fun h9 => h9) (by decide) dX13_removeTicket_92

abbrev rm_X13_refunds : Room := ⟨2, 0, 0, 44⟩
theorem cm_X13_refunds : cmV yX13_refunds cX13_refunds 3 (some .int) 1 := ⟨kw_55, kw_145, ⟨by decide +kernel, by decide +kernel, by decide +kernel⟩, kw_297, kw_298⟩
def f_X13_refunds (N : Nat) (σ : Sm) (x1 : Int) : Option (Sm × Int) :=
  (f_X13_ticket N σ x1).bind fun v1 => (f_X13_t σ v1 5).bind fun v2 => (f_X13_ticket N σ x1).bind fun v3 => (f_X13_removeTicket N σ v3).bind fun s4 => if rng ((s4 1 7) - v2) then bl (upm s4 1 7 ((s4 1 7) - v2)) fun s7 => if rng ((s7 1 8) + v2) then bl (upm s7 1 8 ((s7 1 8) + v2)) fun s10 => some (s10, v2) else none else none
theorem ct_X13_refunds {l : Launch} {cy : ClassId} {ad : Nat → Nat} {G : va_G} (N : Nat) (σ : Sm) (x1 : Int) (h1 : rng x1) (hw : wfm σ) (o : Sm × Int) (h : f_X13_refunds N σ x1 = some o) : CtI l yX13_refunds cX13_refunds 3 (some .int) rm_X13_refunds (wlm cy ad) wfm G (tym cy) [.ref (ad 0), vi x1] σ o.1 o.2 := by
  refine ctI_of (by decide) (Nat.le_of_ble_eq_true rfl) hw o o h (fun X Y w => EndI X Y cX13_refunds rm_X13_refunds .int w) (fun _ _ h => h) (fun X A Q hX C => ?_)
  replace C : Cx X (Ym cy ad G A 3 Q) cX13_refunds RX13 (some .int) rm_X13_refunds (tym cy) := C
  show T X (Ym cy ad G A 3 Q) (fun w => EndI X (Ym cy ad G A 3 Q) cX13_refunds rm_X13_refunds .int w) 0 0 0 [(0, .ref (ad 0)), (1, vi x1)] [] σ (f_X13_refunds N σ x1)
  unfold f_X13_refunds
  refine T_aload_n (pc := 0) C dX13_refunds_0 rfl 0 rfl ?_
  refine T_aload_n (pc := 1) C dX13_refunds_1 rfl 0 rfl ?_
  refine T_iload_n (pc := 2) C dX13_refunds_2 rfl 1 rfl ?_
  refine T_callVip (pc := 3) C [vi x1] [.ref (ad 0)] (fun o h9 hw => ct_X13_ticket N σ x1 h1 hw o h9) kw_295 cm_X13_ticket rcm rfl rfl (Nat.le_of_ble_eq_true rfl) (by decide) (a' := 0) (b' := 0) ⟨rfl, rfl⟩ dX13_refunds_3 (fun v1 hv1 => ?_)
  refine T_iconst (pc := 6) C dX13_refunds_6 ?_
  refine T_callVip (pc := 7) C [vi v1, vi 5] [] (fun o h9 hw => ct_X13_t σ v1 5 hv1.1 (rngL rfl) hw o h9) kw_237 cm_X13_t rcm rfl rfl (Nat.le_of_ble_eq_true rfl) (by decide) (a' := 0) (b' := 0) ⟨rfl, rfl⟩ dX13_refunds_7 (fun v2 hv2 => ?_)
  refine T_istore_n (pc := 10) (L' := [(2, vi v2), (0, .ref (ad 0)), (1, vi x1)]) C dX13_refunds_10 rfl (Nat.le_of_ble_eq_true rfl) rfl ?_
  refine T_aload_n (pc := 11) C dX13_refunds_11 rfl 1 rfl ?_
  refine T_aload_n (pc := 12) C dX13_refunds_12 rfl 1 rfl ?_
  refine T_iload_n (pc := 13) C dX13_refunds_13 rfl 2 rfl ?_
  refine T_callVip (pc := 14) C [vi x1] [.ref (ad 0)] (fun o h9 hw => ct_X13_ticket N σ x1 h1 hw o h9) kw_295 cm_X13_ticket rcm rfl rfl (Nat.le_of_ble_eq_true rfl) (by decide) (a' := 0) (b' := 0) ⟨rfl, rfl⟩ dX13_refunds_14 (fun v3 hv3 => ?_)
  refine T_callVv (pc := 17) C [vi v3] [] (fun o h9 hw => ct_X13_removeTicket N σ v3 hv3.1 hw o h9) kw_296 cm_X13_removeTicket rcm rfl rfl (Nat.le_of_ble_eq_true rfl) (by decide) (a' := 0) (b' := 0) ⟨rfl, rfl⟩ dX13_refunds_17 (fun s4 => ?_)
  refine T_aload_n (pc := 20) C dX13_refunds_20 rfl 1 rfl ?_
  refine Tm_getA (pc := 21) C 0 1 (by decide) (fun _ => rfl) kw_152 rfl dX13_refunds_21 ?_
  refine T_bipush (pc := 24) C dX13_refunds_24 (by decide) ?_
  refine T_dup2 (pc := 26) C dX13_refunds_26 rfl rfl ?_
  refine Tm_iald (pc := 27) C 1 7 ⟨by decide, by decide⟩ ⟨by decide, by decide⟩ rfl dX13_refunds_27 (fun r5 => ?_)
  refine T_iload_n (pc := 28) C dX13_refunds_28 rfl 0 rfl ?_
  refine T_isub (pc := 29) C dX13_refunds_29 ?_
  refine T_guard (fun g6 => ?_)
  refine Tm_iast (pc := 30) C 1 7 ⟨by decide, by decide⟩ ⟨by decide, by decide⟩ rfl g6 dX13_refunds_30 ?_
  refine T_blS (fun s7 => ?_)
  refine T_aload_n (pc := 31) C dX13_refunds_31 rfl 1 rfl ?_
  refine Tm_getA (pc := 32) C 0 1 (by decide) (fun _ => rfl) kw_152 rfl dX13_refunds_32 ?_
  refine T_bipush (pc := 35) C dX13_refunds_35 (by decide) ?_
  refine T_dup2 (pc := 37) C dX13_refunds_37 rfl rfl ?_
  refine Tm_iald (pc := 38) C 1 8 ⟨by decide, by decide⟩ ⟨by decide, by decide⟩ rfl dX13_refunds_38 (fun r8 => ?_)
  refine T_iload_n (pc := 39) C dX13_refunds_39 rfl 0 rfl ?_
  refine T_iadd (pc := 40) C dX13_refunds_40 ?_
  refine T_guard (fun g9 => ?_)
  refine Tm_iast (pc := 41) C 1 8 ⟨by decide, by decide⟩ ⟨by decide, by decide⟩ rfl g9 dX13_refunds_41 ?_
  refine T_blS (fun s10 => ?_)
  refine T_iload_n (pc := 42) C dX13_refunds_42 rfl 0 rfl ?_
  exact T_iret (pc := 43) (s10, v2) (fun h9 => h9) hv2.1 (nar_I _) (by decide) dX13_refunds_43

abbrev rm_X13_refund : Room := ⟨3, 0, 0, 66⟩
theorem cm_X13_refund : cmV yX13_refund cX13_refund 2 (some .int) 1 := ⟨kw_56, kw_145, ⟨by decide +kernel, by decide +kernel, by decide +kernel⟩, kw_300, kw_301⟩
def f_X13_refund (N : Nat) (σ : Sm) (x1 : Int) : Option (Sm × Int) :=
  (f_X13_begin N σ).bind fun s1 => (f_X13_ticket N s1 x1).bind fun v2 => (if 0 ≤ v2 then (f_X13_refunds N s1 x1).bind fun v4 => (f_X13_commit N v4.1 v4.2).bind fun v5 => some (v5.1, v5.2) else (f_X13_fail s1 1).bind fun v6 => some (v6.1, v6.2))
theorem ct_X13_refund {l : Launch} {cy : ClassId} {ad : Nat → Nat} {G : va_G} (N : Nat) (σ : Sm) (x1 : Int) (h1 : rng x1) (hw : wfm σ) (o : Sm × Int) (h : f_X13_refund N σ x1 = some o) : CtI l yX13_refund cX13_refund 2 (some .int) rm_X13_refund (wlm cy ad) wfm G (tym cy) [.ref (ad 0), vi x1] σ o.1 o.2 := by
  refine ctI_of (by decide) (Nat.le_of_ble_eq_true rfl) hw o o h (fun X Y w => EndI X Y cX13_refund rm_X13_refund .int w) (fun _ _ h => h) (fun X A Q hX C => ?_)
  replace C : Cx X (Ym cy ad G A 2 Q) cX13_refund RX13 (some .int) rm_X13_refund (tym cy) := C
  show T X (Ym cy ad G A 2 Q) (fun w => EndI X (Ym cy ad G A 2 Q) cX13_refund rm_X13_refund .int w) 0 0 0 [(0, .ref (ad 0)), (1, vi x1)] [] σ (f_X13_refund N σ x1)
  unfold f_X13_refund
  refine T_aload_n (pc := 0) C dX13_refund_0 rfl 0 rfl ?_
  refine T_callVv (pc := 1) C [] [] (fun o h9 hw => ct_X13_begin N σ hw o h9) kw_177 cm_X13_begin rcm rfl rfl (Nat.le_of_ble_eq_true rfl) (by decide) (a' := 0) (b' := 0) ⟨rfl, rfl⟩ dX13_refund_1 (fun s1 => ?_)
  refine T_aload_n (pc := 4) C dX13_refund_4 rfl 0 rfl ?_
  refine T_iload_n (pc := 5) C dX13_refund_5 rfl 1 rfl ?_
  refine T_callVip (pc := 6) C [vi x1] [] (fun o h9 hw => ct_X13_ticket N s1 x1 h1 hw o h9) kw_295 cm_X13_ticket rcm rfl rfl (Nat.le_of_ble_eq_true rfl) (by decide) (a' := 0) (b' := 0) ⟨rfl, rfl⟩ dX13_refund_6 (fun v2 hv2 => ?_)
  refine T_if_ge (pc := 9) C 20 dX13_refund_9 rfl hv2.1 (fun c3 => ?_) (fun c3 => ?_)
  · refine T_aload_n (pc := 20) C dX13_refund_20 rfl 0 rfl ?_
    refine T_aload_n (pc := 21) C dX13_refund_21 rfl 0 rfl ?_
    refine T_iload_n (pc := 22) C dX13_refund_22 rfl 1 rfl ?_
    refine T_callVi (pc := 23) C [vi x1] [.ref (ad 0)] (fun o h9 hw => ct_X13_refunds N s1 x1 h1 hw o h9) kw_299 cm_X13_refunds rcm rfl rfl (Nat.le_of_ble_eq_true rfl) (by decide) (a' := 0) (b' := 0) ⟨rfl, rfl⟩ dX13_refund_23 (fun v4 hv4 => ?_)
    refine T_callVi (pc := 26) C [vi v4.2] [] (fun o h9 hw => ct_X13_commit N v4.1 v4.2 hv4.1 hw o h9) kw_180 cm_X13_commit rcm rfl rfl (Nat.le_of_ble_eq_true rfl) (by decide) (a' := 0) (b' := 0) ⟨rfl, rfl⟩ dX13_refund_26 (fun v5 hv5 => ?_)
    exact T_iret (pc := 29) (v5.1, v5.2) (fun h9 => h9) hv5.1 (nar_I _) (by decide) dX13_refund_29
  · refine T_aload_n (pc := 12) C dX13_refund_12 rfl 0 rfl ?_
    refine T_iconst (pc := 13) C dX13_refund_13 ?_
    refine T_callVi (pc := 14) C [vi 1] [] (fun o h9 hw => ct_X13_fail s1 1 (rngL rfl) hw o h9) kw_181 cm_X13_fail rcm rfl rfl (Nat.le_of_ble_eq_true rfl) (by decide) (a' := 0) (b' := 0) ⟨rfl, rfl⟩ dX13_refund_14 (fun v6 hv6 => ?_)
    refine T_goto (pc := 17) C 29 dX13_refund_17 rfl ?_
    exact T_iret (pc := 29) (v6.1, v6.2) (fun h9 => h9) hv6.1 (nar_I _) (by decide) dX13_refund_29

abbrev rm_X13_passes : Room := ⟨3, 0, 0, 66⟩
theorem cm_X13_passes : cmV yX13_passes cX13_passes 3 (some .int) 0 := ⟨kw_57, kw_145, ⟨by decide +kernel, by decide +kernel, by decide +kernel⟩, kw_302, kw_303⟩
def f_X13_passes_14 (N : Nat) : Nat → Sm → Int → Int → Option (Sm × Int)
  | 0, _, _, _ => none
  | n + 1, s0, x1, x2 => (if (s0 1 3) ≤ x2 then some (s0, x1) else (f_X13_t s0 x2 1).bind fun v28 => (f_X13_t s0 x2 2).bind fun v29 => (f_X13_t s0 x2 4).bind fun v30 => (f_X13_minuteOf s0 v28 v29 v30).bind fun v31 => (if v31 ≤ (s0 1 5) then (f_X13_removeTicket N s0 x2).bind fun s33 => if rng (x1 + 1) then f_X13_passes_14 N n s33 (x1 + 1) x2 else none else f_X13_passes_14 N n s0 x1 (x2 + 1)))
theorem lp_X13_passes_14 {X : vjX} {A : Nat → Prop} {Q : State → Prop} {cy : ClassId} {ad : Nat → Nat} {G : va_G} (C : Cx X (Ym cy ad G A 3 Q) cX13_passes RX13 (some .int) rm_X13_passes (tym cy)) (N : Nat) : ∀ (n : Nat) (s0 : Sm) (x1 : Int) (x2 : Int) (h1 : rng x1) (h2 : rng x2), T X (Ym cy ad G A 3 Q) (fun (q : Sm × Int) => rng q.2 → J X (Ym cy ad G A 3 Q) 0 0 72 [(0, .ref (ad 0)), (1, vi q.2)] [] q.1) 0 0 14 [(0, .ref (ad 0)), (1, vi x1), (2, vi x2)] [] s0 (f_X13_passes_14 N n s0 x1 x2) := by
  intro n
  induction n with
  | zero => intro s0 x1 x2 h1 h2; exact T_none
  | succ n ih =>
    intro s0 x1 x2 h1 h2
    rw [f_X13_passes_14]
    refine T_iload_n (pc := 14) C dX13_passes_14 rfl 2 rfl ?_
    refine T_aload_n (pc := 15) C dX13_passes_15 rfl 0 rfl ?_
    refine Tm_getA (pc := 16) C 0 1 (by decide) (fun _ => rfl) kw_152 rfl dX13_passes_16 ?_
    refine T_iconst (pc := 19) C dX13_passes_19 ?_
    refine Tm_iald (pc := 20) C 1 3 ⟨by decide, by decide⟩ ⟨by decide, by decide⟩ rfl dX13_passes_20 (fun r25 => ?_)
    refine T_icmp_ge (pc := 21) C 72 dX13_passes_21 rfl h2 r25 (fun c26 => ?_) (fun c26 => ?_)
    · refine T_sub (L' := [(0, .ref (ad 0)), (1, vi x1)]) [0, 1] rfl ?_
      exact T_exit (fun h9 => h9 h1)
    · refine T_aload_n (pc := 24) C dX13_passes_24 rfl 0 rfl ?_
      refine Tm_getA (pc := 25) C 0 1 (by decide) (fun _ => rfl) kw_152 rfl dX13_passes_25 ?_
      refine T_iconst (pc := 28) C dX13_passes_28 ?_
      refine Tm_iald (pc := 29) C 1 5 ⟨by decide, by decide⟩ ⟨by decide, by decide⟩ rfl dX13_passes_29 (fun r27 => ?_)
      refine T_aload_n (pc := 30) C dX13_passes_30 rfl 0 rfl ?_
      refine T_aload_n (pc := 31) C dX13_passes_31 rfl 0 rfl ?_
      refine T_iload_n (pc := 32) C dX13_passes_32 rfl 2 rfl ?_
      refine T_iconst (pc := 33) C dX13_passes_33 ?_
      refine T_callVip (pc := 34) C [vi x2, vi 1] [.ref (ad 0), vi (s0 1 5)] (fun o h9 hw => ct_X13_t s0 x2 1 h2 (rngL rfl) hw o h9) kw_237 cm_X13_t rcm rfl rfl (Nat.le_of_ble_eq_true rfl) (by decide) (a' := 0) (b' := 0) ⟨rfl, rfl⟩ dX13_passes_34 (fun v28 hv28 => ?_)
      refine T_aload_n (pc := 37) C dX13_passes_37 rfl 0 rfl ?_
      refine T_iload_n (pc := 38) C dX13_passes_38 rfl 2 rfl ?_
      refine T_iconst (pc := 39) C dX13_passes_39 ?_
      refine T_callVip (pc := 40) C [vi x2, vi 2] [vi v28, .ref (ad 0), vi (s0 1 5)] (fun o h9 hw => ct_X13_t s0 x2 2 h2 (rngL rfl) hw o h9) kw_237 cm_X13_t rcm rfl rfl (Nat.le_of_ble_eq_true rfl) (by decide) (a' := 0) (b' := 0) ⟨rfl, rfl⟩ dX13_passes_40 (fun v29 hv29 => ?_)
      refine T_aload_n (pc := 43) C dX13_passes_43 rfl 0 rfl ?_
      refine T_iload_n (pc := 44) C dX13_passes_44 rfl 2 rfl ?_
      refine T_iconst (pc := 45) C dX13_passes_45 ?_
      refine T_callVip (pc := 46) C [vi x2, vi 4] [vi v29, vi v28, .ref (ad 0), vi (s0 1 5)] (fun o h9 hw => ct_X13_t s0 x2 4 h2 (rngL rfl) hw o h9) kw_237 cm_X13_t rcm rfl rfl (Nat.le_of_ble_eq_true rfl) (by decide) (a' := 0) (b' := 0) ⟨rfl, rfl⟩ dX13_passes_46 (fun v30 hv30 => ?_)
      refine T_callVip (pc := 49) C [vi v28, vi v29, vi v30] [vi (s0 1 5)] (fun o h9 hw => ct_X13_minuteOf s0 v28 v29 v30 hv28.1 hv29.1 hv30.1 hw o h9) kw_223 cm_X13_minuteOf rcm rfl rfl (Nat.le_of_ble_eq_true rfl) (by decide) (a' := 0) (b' := 0) ⟨rfl, rfl⟩ dX13_passes_49 (fun v31 hv31 => ?_)
      refine T_icmp_ge (pc := 52) C 61 dX13_passes_52 rfl r27 hv31.1 (fun c32 => ?_) (fun c32 => ?_)
      · refine T_aload_n (pc := 61) C dX13_passes_61 rfl 0 rfl ?_
        refine T_iload_n (pc := 62) C dX13_passes_62 rfl 2 rfl ?_
        refine T_callVv (pc := 63) C [vi x2] [] (fun o h9 hw => ct_X13_removeTicket N s0 x2 h2 hw o h9) kw_296 cm_X13_removeTicket rcm rfl rfl (Nat.le_of_ble_eq_true rfl) (by decide) (a' := 0) (b' := 0) ⟨rfl, rfl⟩ dX13_passes_63 (fun s33 => ?_)
        refine T_iinc (pc := 66) (L' := [(1, vi (x1 + 1)), (0, .ref (ad 0)), (2, vi x2)]) C dX13_passes_66 (Nat.le_of_ble_eq_true rfl) 1 rfl rfl ?_
        refine T_goto (pc := 69) C 14 dX13_passes_69 rfl ?_
        refine T_sub (L' := [(0, .ref (ad 0)), (1, vi (x1 + 1)), (2, vi x2)]) [1, 0, 2] rfl ?_
        refine T_guard (fun g34 => ?_)
        exact ih s33 (x1 + 1) x2 g34 h2
      · refine T_iinc (pc := 55) (L' := [(2, vi (x2 + 1)), (0, .ref (ad 0)), (1, vi x1)]) C dX13_passes_55 (Nat.le_of_ble_eq_true rfl) 2 rfl rfl ?_
        refine T_goto (pc := 58) C 14 dX13_passes_58 rfl ?_
        refine T_sub (L' := [(0, .ref (ad 0)), (1, vi x1), (2, vi (x2 + 1))]) [1, 2, 0] rfl ?_
        exact ih s0 x1 (x2 + 1) h1 (rng_inc c26 h2 r25)
def f_X13_passes (N : Nat) (σ : Sm) : Option (Sm × Int) :=
  if rng ((σ 1 5) + 1) then bl (upm σ 1 5 ((σ 1 5) + 1)) fun s3 => (f_X13_passes_14 N N s3 0 0).bind fun q35 => if rng ((q35.1 1 9) + q35.2) then bl (upm q35.1 1 9 ((q35.1 1 9) + q35.2)) fun s38 => some (s38, q35.2) else none else none
theorem ct_X13_passes {l : Launch} {cy : ClassId} {ad : Nat → Nat} {G : va_G} (N : Nat) (σ : Sm) (hw : wfm σ) (o : Sm × Int) (h : f_X13_passes N σ = some o) : CtI l yX13_passes cX13_passes 3 (some .int) rm_X13_passes (wlm cy ad) wfm G (tym cy) [.ref (ad 0)] σ o.1 o.2 := by
  refine ctI_of (by decide) (Nat.le_of_ble_eq_true rfl) hw o o h (fun X Y w => EndI X Y cX13_passes rm_X13_passes .int w) (fun _ _ h => h) (fun X A Q hX C => ?_)
  replace C : Cx X (Ym cy ad G A 3 Q) cX13_passes RX13 (some .int) rm_X13_passes (tym cy) := C
  show T X (Ym cy ad G A 3 Q) (fun w => EndI X (Ym cy ad G A 3 Q) cX13_passes rm_X13_passes .int w) 0 0 0 [(0, .ref (ad 0))] [] σ (f_X13_passes N σ)
  unfold f_X13_passes
  refine T_aload_n (pc := 0) C dX13_passes_0 rfl 0 rfl ?_
  refine Tm_getA (pc := 1) C 0 1 (by decide) (fun _ => rfl) kw_152 rfl dX13_passes_1 ?_
  refine T_iconst (pc := 4) C dX13_passes_4 ?_
  refine T_dup2 (pc := 5) C dX13_passes_5 rfl rfl ?_
  refine Tm_iald (pc := 6) C 1 5 ⟨by decide, by decide⟩ ⟨by decide, by decide⟩ rfl dX13_passes_6 (fun r1 => ?_)
  refine T_iconst (pc := 7) C dX13_passes_7 ?_
  refine T_iadd (pc := 8) C dX13_passes_8 ?_
  refine T_guard (fun g2 => ?_)
  refine Tm_iast (pc := 9) C 1 5 ⟨by decide, by decide⟩ ⟨by decide, by decide⟩ rfl g2 dX13_passes_9 ?_
  refine T_blS (fun s3 => ?_)
  refine T_iconst (pc := 10) C dX13_passes_10 ?_
  refine T_istore_n (pc := 11) (L' := [(1, vi 0), (0, .ref (ad 0))]) C dX13_passes_11 rfl (Nat.le_of_ble_eq_true rfl) rfl ?_
  refine T_iconst (pc := 12) C dX13_passes_12 ?_
  refine T_istore_n (pc := 13) (L' := [(2, vi 0), (1, vi 0), (0, .ref (ad 0))]) C dX13_passes_13 rfl (Nat.le_of_ble_eq_true rfl) rfl ?_
  refine T_sub (L' := [(0, .ref (ad 0)), (1, vi 0), (2, vi 0)]) [2, 1, 0] rfl ?_
  refine T_loopE (lp_X13_passes_14 C N N s3 0 0 (rngL rfl) (rngL rfl)) (fun q35 hq35 => ?_)
  refine T_aload_n (pc := 72) C dX13_passes_72 rfl 0 rfl ?_
  refine Tm_getA (pc := 73) C 0 1 (by decide) (fun _ => rfl) kw_152 rfl dX13_passes_73 ?_
  refine T_bipush (pc := 76) C dX13_passes_76 (by decide) ?_
  refine T_dup2 (pc := 78) C dX13_passes_78 rfl rfl ?_
  refine Tm_iald (pc := 79) C 1 9 ⟨by decide, by decide⟩ ⟨by decide, by decide⟩ rfl dX13_passes_79 (fun r36 => ?_)
  refine T_iload_n (pc := 80) C dX13_passes_80 rfl 1 rfl ?_
  refine T_iadd (pc := 81) C dX13_passes_81 ?_
  refine T_guard (fun g37 => ?_)
  refine Tm_iast (pc := 82) C 1 9 ⟨by decide, by decide⟩ ⟨by decide, by decide⟩ rfl g37 dX13_passes_82 ?_
  refine T_blS (fun s38 => ?_)
  refine T_iload_n (pc := 83) C dX13_passes_83 rfl 1 rfl ?_
  exact T_iret (pc := 84) (s38, q35.2) (fun h9 => h9) hq35 (nar_I _) (by decide) dX13_passes_84

abbrev rm_X13_advances : Room := ⟨4, 0, 0, 88⟩
theorem cm_X13_advances : cmV yX13_advances cX13_advances 4 (some .int) 1 := ⟨kw_58, kw_145, ⟨by decide +kernel, by decide +kernel, by decide +kernel⟩, kw_305, kw_306⟩
def f_X13_advances_4 (N : Nat) (x1 : Int) : Nat → Sm → Int → Int → Option (Sm × Int)
  | 0, _, _, _ => none
  | n + 1, s0, x2, x3 => (if x1 ≤ x3 then some (s0, x2) else (f_X13_passes N s0).bind fun v10 => bl (x2 + v10.2) fun v11 => if rng v11 then f_X13_advances_4 N x1 n v10.1 v11 (x3 + 1) else none)
theorem lp_X13_advances_4 {X : vjX} {A : Nat → Prop} {Q : State → Prop} {cy : ClassId} {ad : Nat → Nat} {G : va_G} (C : Cx X (Ym cy ad G A 4 Q) cX13_advances RX13 (some .int) rm_X13_advances (tym cy)) (N : Nat) (x1 : Int) (h1 : rng x1) : ∀ (n : Nat) (s0 : Sm) (x2 : Int) (x3 : Int) (h2 : rng x2) (h3 : rng x3), T X (Ym cy ad G A 4 Q) (fun (q : Sm × Int) => rng q.2 → J X (Ym cy ad G A 4 Q) 0 0 22 [(2, vi q.2)] [] q.1) 0 0 4 [(0, .ref (ad 0)), (1, vi x1), (2, vi x2), (3, vi x3)] [] s0 (f_X13_advances_4 N x1 n s0 x2 x3) := by
  intro n
  induction n with
  | zero => intro s0 x2 x3 h2 h3; exact T_none
  | succ n ih =>
    intro s0 x2 x3 h2 h3
    rw [f_X13_advances_4]
    refine T_iload_n (pc := 4) C dX13_advances_4 rfl 3 rfl ?_
    refine T_iload_n (pc := 5) C dX13_advances_5 rfl 1 rfl ?_
    refine T_icmp_ge (pc := 6) C 22 dX13_advances_6 rfl h3 h1 (fun c9 => ?_) (fun c9 => ?_)
    · refine T_sub (L' := [(2, vi x2)]) [2] rfl ?_
      exact T_exit (fun h9 => h9 h2)
    · refine T_iload_n (pc := 9) C dX13_advances_9 rfl 2 rfl ?_
      refine T_aload_n (pc := 10) C dX13_advances_10 rfl 0 rfl ?_
      refine T_callVi (pc := 11) C [] [vi x2] (fun o h9 hw => ct_X13_passes N s0 hw o h9) kw_304 cm_X13_passes rcm rfl rfl (Nat.le_of_ble_eq_true rfl) (by decide) (a' := 0) (b' := 0) ⟨rfl, rfl⟩ dX13_advances_11 (fun v10 hv10 => ?_)
      refine T_iadd (pc := 14) C dX13_advances_14 ?_
      refine T_blN (fun v11 => ?_)
      refine T_istore_n (pc := 15) (L' := [(2, vi v11), (0, .ref (ad 0)), (1, vi x1), (3, vi x3)]) C dX13_advances_15 rfl (Nat.le_of_ble_eq_true rfl) rfl ?_
      refine T_iinc (pc := 16) (L' := [(3, vi (x3 + 1)), (2, vi v11), (0, .ref (ad 0)), (1, vi x1)]) C dX13_advances_16 (Nat.le_of_ble_eq_true rfl) 3 rfl rfl ?_
      refine T_goto (pc := 19) C 4 dX13_advances_19 rfl ?_
      refine T_sub (L' := [(0, .ref (ad 0)), (1, vi x1), (2, vi v11), (3, vi (x3 + 1))]) [2, 3, 1, 0] rfl ?_
      refine T_guard (fun g12 => ?_)
      exact ih v10.1 v11 (x3 + 1) g12 (rng_inc c9 h3 h1)
def f_X13_advances (N : Nat) (σ : Sm) (x1 : Int) : Option (Sm × Int) :=
  (f_X13_advances_4 N x1 N σ 0 0).bind fun q13 => some (q13.1, q13.2)
theorem ct_X13_advances {l : Launch} {cy : ClassId} {ad : Nat → Nat} {G : va_G} (N : Nat) (σ : Sm) (x1 : Int) (h1 : rng x1) (hw : wfm σ) (o : Sm × Int) (h : f_X13_advances N σ x1 = some o) : CtI l yX13_advances cX13_advances 4 (some .int) rm_X13_advances (wlm cy ad) wfm G (tym cy) [.ref (ad 0), vi x1] σ o.1 o.2 := by
  refine ctI_of (by decide) (Nat.le_of_ble_eq_true rfl) hw o o h (fun X Y w => EndI X Y cX13_advances rm_X13_advances .int w) (fun _ _ h => h) (fun X A Q hX C => ?_)
  replace C : Cx X (Ym cy ad G A 4 Q) cX13_advances RX13 (some .int) rm_X13_advances (tym cy) := C
  show T X (Ym cy ad G A 4 Q) (fun w => EndI X (Ym cy ad G A 4 Q) cX13_advances rm_X13_advances .int w) 0 0 0 [(0, .ref (ad 0)), (1, vi x1)] [] σ (f_X13_advances N σ x1)
  unfold f_X13_advances
  refine T_iconst (pc := 0) C dX13_advances_0 ?_
  refine T_istore_n (pc := 1) (L' := [(2, vi 0), (0, .ref (ad 0)), (1, vi x1)]) C dX13_advances_1 rfl (Nat.le_of_ble_eq_true rfl) rfl ?_
  refine T_iconst (pc := 2) C dX13_advances_2 ?_
  refine T_istore_n (pc := 3) (L' := [(3, vi 0), (2, vi 0), (0, .ref (ad 0)), (1, vi x1)]) C dX13_advances_3 rfl (Nat.le_of_ble_eq_true rfl) rfl ?_
  refine T_sub (L' := [(0, .ref (ad 0)), (1, vi x1), (2, vi 0), (3, vi 0)]) [2, 3, 1, 0] rfl ?_
  refine T_loopE (lp_X13_advances_4 C N x1 h1 N σ 0 0 (rngL rfl) (rngL rfl)) (fun q13 hq13 => ?_)
  refine T_iload_n (pc := 22) C dX13_advances_22 rfl 0 rfl ?_
  exact T_iret (pc := 23) (q13.1, q13.2) (fun h9 => h9) hq13 (nar_I _) (by decide) dX13_advances_23

abbrev rm_X13_advance : Room := ⟨5, 0, 0, 111⟩
theorem cm_X13_advance : cmV yX13_advance cX13_advance 2 (some .int) 1 := ⟨kw_59, kw_145, ⟨by decide +kernel, by decide +kernel, by decide +kernel⟩, kw_308, kw_309⟩
def f_X13_advance (N : Nat) (σ : Sm) (x1 : Int) : Option (Sm × Int) :=
  (f_X13_begin N σ).bind fun s1 => (f_X13_in x1 1 120).bind fun v2 => (if v2 = 0 then (f_X13_fail s1 1).bind fun v4 => some (v4.1, v4.2) else (f_X13_advances N s1 x1).bind fun v5 => (f_X13_commit N v5.1 v5.2).bind fun v6 => some (v6.1, v6.2))
theorem ct_X13_advance {l : Launch} {cy : ClassId} {ad : Nat → Nat} {G : va_G} (N : Nat) (σ : Sm) (x1 : Int) (h1 : rng x1) (hw : wfm σ) (o : Sm × Int) (h : f_X13_advance N σ x1 = some o) : CtI l yX13_advance cX13_advance 2 (some .int) rm_X13_advance (wlm cy ad) wfm G (tym cy) [.ref (ad 0), vi x1] σ o.1 o.2 := by
  refine ctI_of (by decide) (Nat.le_of_ble_eq_true rfl) hw o o h (fun X Y w => EndI X Y cX13_advance rm_X13_advance .int w) (fun _ _ h => h) (fun X A Q hX C => ?_)
  replace C : Cx X (Ym cy ad G A 2 Q) cX13_advance RX13 (some .int) rm_X13_advance (tym cy) := C
  show T X (Ym cy ad G A 2 Q) (fun w => EndI X (Ym cy ad G A 2 Q) cX13_advance rm_X13_advance .int w) 0 0 0 [(0, .ref (ad 0)), (1, vi x1)] [] σ (f_X13_advance N σ x1)
  unfold f_X13_advance
  refine T_aload_n (pc := 0) C dX13_advance_0 rfl 0 rfl ?_
  refine T_callVv (pc := 1) C [] [] (fun o h9 hw => ct_X13_begin N σ hw o h9) kw_177 cm_X13_begin rcm rfl rfl (Nat.le_of_ble_eq_true rfl) (by decide) (a' := 0) (b' := 0) ⟨rfl, rfl⟩ dX13_advance_1 (fun s1 => ?_)
  refine T_iload_n (pc := 4) C dX13_advance_4 rfl 1 rfl ?_
  refine T_iconst (pc := 5) C dX13_advance_5 ?_
  refine T_bipush (pc := 6) C dX13_advance_6 (by decide) ?_
  refine T_callSip (pc := 8) C [vi x1, vi 1, vi 120] [] (fun o h9 hw => ct_X13_in s1 x1 1 120 h1 (rngL rfl) (rngL rfl) hw o h9) kw_161 cm_X13_in rfl rfl (Nat.le_of_ble_eq_true rfl) (by decide) (a' := 0) (b' := 0) ⟨rfl, rfl⟩ dX13_advance_8 (fun v2 hv2 => ?_)
  refine T_if_eq (pc := 11) C 26 dX13_advance_11 rfl hv2.1 (fun c3 => ?_) (fun c3 => ?_)
  · refine T_aload_n (pc := 26) C dX13_advance_26 rfl 0 rfl ?_
    refine T_iconst (pc := 27) C dX13_advance_27 ?_
    refine T_callVi (pc := 28) C [vi 1] [] (fun o h9 hw => ct_X13_fail s1 1 (rngL rfl) hw o h9) kw_181 cm_X13_fail rcm rfl rfl (Nat.le_of_ble_eq_true rfl) (by decide) (a' := 0) (b' := 0) ⟨rfl, rfl⟩ dX13_advance_28 (fun v4 hv4 => ?_)
    exact T_iret (pc := 31) (v4.1, v4.2) (fun h9 => h9) hv4.1 (nar_I _) (by decide) dX13_advance_31
  · refine T_aload_n (pc := 14) C dX13_advance_14 rfl 0 rfl ?_
    refine T_aload_n (pc := 15) C dX13_advance_15 rfl 0 rfl ?_
    refine T_iload_n (pc := 16) C dX13_advance_16 rfl 1 rfl ?_
    refine T_callVi (pc := 17) C [vi x1] [.ref (ad 0)] (fun o h9 hw => ct_X13_advances N s1 x1 h1 hw o h9) kw_307 cm_X13_advances rcm rfl rfl (Nat.le_of_ble_eq_true rfl) (by decide) (a' := 0) (b' := 0) ⟨rfl, rfl⟩ dX13_advance_17 (fun v5 hv5 => ?_)
    refine T_callVi (pc := 20) C [vi v5.2] [] (fun o h9 hw => ct_X13_commit N v5.1 v5.2 hv5.1 hw o h9) kw_180 cm_X13_commit rcm rfl rfl (Nat.le_of_ble_eq_true rfl) (by decide) (a' := 0) (b' := 0) ⟨rfl, rfl⟩ dX13_advance_20 (fun v6 hv6 => ?_)
    refine T_goto (pc := 23) C 31 dX13_advance_23 rfl ?_
    exact T_iret (pc := 31) (v6.1, v6.2) (fun h9 => h9) hv6.1 (nar_I _) (by decide) dX13_advance_31

abbrev rm_X13_plain : Room := ⟨0, 0, 0, 0⟩
theorem cm_X13_plain : cmV yX13_plain cX13_plain 2 (some .int) 1 := ⟨kw_60, kw_145, ⟨by decide +kernel, by decide +kernel, by decide +kernel⟩, kw_310, kw_311⟩
def f_X13_plain (σ : Sm) (x1 : Int) : Option (Sm × Int) :=
  bl (upm σ 11 0 0) fun s1 => some (s1, x1)
theorem ct_X13_plain {l : Launch} {cy : ClassId} {ad : Nat → Nat} {G : va_G} (σ : Sm) (x1 : Int) (h1 : rng x1) (hw : wfm σ) (o : Sm × Int) (h : f_X13_plain σ x1 = some o) : CtI l yX13_plain cX13_plain 2 (some .int) rm_X13_plain (wlm cy ad) wfm G (tym cy) [.ref (ad 0), vi x1] σ o.1 o.2 := by
  refine ctI_of (by decide) (Nat.le_of_ble_eq_true rfl) hw o o h (fun X Y w => EndI X Y cX13_plain rm_X13_plain .int w) (fun _ _ h => h) (fun X A Q hX C => ?_)
  replace C : Cx X (Ym cy ad G A 2 Q) cX13_plain RX13 (some .int) rm_X13_plain (tym cy) := C
  show T X (Ym cy ad G A 2 Q) (fun w => EndI X (Ym cy ad G A 2 Q) cX13_plain rm_X13_plain .int w) 0 0 0 [(0, .ref (ad 0)), (1, vi x1)] [] σ (f_X13_plain σ x1)
  unfold f_X13_plain
  refine T_aload_n (pc := 0) C dX13_plain_0 rfl 0 rfl ?_
  refine T_iconst (pc := 1) C dX13_plain_1 ?_
  refine Tm_put (pc := 2) C (ty := .int) 11 ⟨by decide, by decide⟩ (rngL rfl) kw_144 rfl (nar_I _) (fit_I _) dX13_plain_2 ?_
  refine T_blS (fun s1 => ?_)
  refine T_iload_n (pc := 5) C dX13_plain_5 rfl 1 rfl ?_
  exact T_iret (pc := 6) (s1, x1) (fun h9 => h9) h1 (nar_I _) (by decide) dX13_plain_6

abbrev rm_X13_checked : Room := ⟨0, 0, 0, 0⟩
theorem cm_X13_checked : cmV yX13_checked cX13_checked 2 (some .int) 1 := ⟨kw_61, kw_145, ⟨by decide +kernel, by decide +kernel, by decide +kernel⟩, kw_312, kw_313⟩
def f_X13_checked (σ : Sm) (x1 : Int) : Option (Sm × Int) :=
  (if x1 = 0 then bl (upm σ 11 0 1) fun s2 => some (s2, (s2 11 0)) else bl (upm σ 11 0 0) fun s4 => some (s4, (s4 11 0)))
theorem ct_X13_checked {l : Launch} {cy : ClassId} {ad : Nat → Nat} {G : va_G} (σ : Sm) (x1 : Int) (h1 : bit x1) (hw : wfm σ) (o : Sm × Int) (h : f_X13_checked σ x1 = some o) : CtI l yX13_checked cX13_checked 2 (some .int) rm_X13_checked (wlm cy ad) wfm G (tym cy) [.ref (ad 0), vi x1] σ o.1 o.2 := by
  refine ctI_of (by decide) (Nat.le_of_ble_eq_true rfl) hw o o h (fun X Y w => EndI X Y cX13_checked rm_X13_checked .int w) (fun _ _ h => h) (fun X A Q hX C => ?_)
  replace C : Cx X (Ym cy ad G A 2 Q) cX13_checked RX13 (some .int) rm_X13_checked (tym cy) := C
  show T X (Ym cy ad G A 2 Q) (fun w => EndI X (Ym cy ad G A 2 Q) cX13_checked rm_X13_checked .int w) 0 0 0 [(0, .ref (ad 0)), (1, vi x1)] [] σ (f_X13_checked σ x1)
  unfold f_X13_checked
  refine T_aload_n (pc := 0) C dX13_checked_0 rfl 0 rfl ?_
  refine T_iload_n (pc := 1) C dX13_checked_1 rfl 1 rfl ?_
  refine T_if_eq (pc := 2) C 9 dX13_checked_2 rfl (bit_rng h1) (fun c1 => ?_) (fun c1 => ?_)
  · refine T_iconst (pc := 9) C dX13_checked_9 ?_
    refine Tm_put (pc := 10) C (ty := .int) 11 ⟨by decide, by decide⟩ (rngL rfl) kw_144 rfl (nar_I _) (fit_I _) dX13_checked_10 ?_
    refine T_blS (fun s2 => ?_)
    refine T_aload_n (pc := 13) C dX13_checked_13 rfl 0 rfl ?_
    refine Tm_get (pc := 14) C 11 ⟨by decide, by decide⟩ kw_144 dX13_checked_14 (fun r3 => ?_)
    exact T_iret (pc := 17) (s2, (s2 11 0)) (fun h9 => h9) r3 (nar_I _) (by decide) dX13_checked_17
  · refine T_iconst (pc := 5) C dX13_checked_5 ?_
    refine T_goto (pc := 6) C 10 dX13_checked_6 rfl ?_
    refine Tm_put (pc := 10) C (ty := .int) 11 ⟨by decide, by decide⟩ (rngL rfl) kw_144 rfl (nar_I _) (fit_I _) dX13_checked_10 ?_
    refine T_blS (fun s4 => ?_)
    refine T_aload_n (pc := 13) C dX13_checked_13 rfl 0 rfl ?_
    refine Tm_get (pc := 14) C 11 ⟨by decide, by decide⟩ kw_144 dX13_checked_14 (fun r5 => ?_)
    exact T_iret (pc := 17) (s4, (s4 11 0)) (fun h9 => h9) r5 (nar_I _) (by decide) dX13_checked_17

abbrev rm_X13_minute : Room := ⟨1, 0, 0, 21⟩
theorem cm_X13_minute : cmV yX13_minute cX13_minute 1 (some .int) 0 := ⟨kw_62, kw_145, ⟨by decide +kernel, by decide +kernel, by decide +kernel⟩, kw_315, kw_316⟩
def f_X13_minute (σ : Sm) : Option (Sm × Int) :=
  (f_X13_plain σ (σ 1 5)).bind fun v2 => some (v2.1, v2.2)
theorem ct_X13_minute {l : Launch} {cy : ClassId} {ad : Nat → Nat} {G : va_G} (σ : Sm) (hw : wfm σ) (o : Sm × Int) (h : f_X13_minute σ = some o) : CtI l yX13_minute cX13_minute 1 (some .int) rm_X13_minute (wlm cy ad) wfm G (tym cy) [.ref (ad 0)] σ o.1 o.2 := by
  refine ctI_of (by decide) (Nat.le_of_ble_eq_true rfl) hw o o h (fun X Y w => EndI X Y cX13_minute rm_X13_minute .int w) (fun _ _ h => h) (fun X A Q hX C => ?_)
  replace C : Cx X (Ym cy ad G A 1 Q) cX13_minute RX13 (some .int) rm_X13_minute (tym cy) := C
  show T X (Ym cy ad G A 1 Q) (fun w => EndI X (Ym cy ad G A 1 Q) cX13_minute rm_X13_minute .int w) 0 0 0 [(0, .ref (ad 0))] [] σ (f_X13_minute σ)
  unfold f_X13_minute
  refine T_aload_n (pc := 0) C dX13_minute_0 rfl 0 rfl ?_
  refine T_aload_n (pc := 1) C dX13_minute_1 rfl 0 rfl ?_
  refine Tm_getA (pc := 2) C 0 1 (by decide) (fun _ => rfl) kw_152 rfl dX13_minute_2 ?_
  refine T_iconst (pc := 5) C dX13_minute_5 ?_
  refine Tm_iald (pc := 6) C 1 5 ⟨by decide, by decide⟩ ⟨by decide, by decide⟩ rfl dX13_minute_6 (fun r1 => ?_)
  refine T_callVi (pc := 7) C [vi (σ 1 5)] [] (fun o h9 hw => ct_X13_plain σ (σ 1 5) r1 hw o h9) kw_314 cm_X13_plain rcm rfl rfl (Nat.le_of_ble_eq_true rfl) (by decide) (a' := 0) (b' := 0) ⟨rfl, rfl⟩ dX13_minute_7 (fun v2 hv2 => ?_)
  exact T_iret (pc := 10) (v2.1, v2.2) (fun h9 => h9) hv2.1 (nar_I _) (by decide) dX13_minute_10

abbrev rm_X13_isRaining : Room := ⟨1, 0, 0, 21⟩
theorem cm_X13_isRaining : cmV yX13_isRaining cX13_isRaining 1 (some .boolean) 0 := ⟨kw_63, kw_145, ⟨by decide +kernel, by decide +kernel, by decide +kernel⟩, kw_317, kw_318⟩
def f_X13_isRaining (σ : Sm) : Option (Sm × Int) :=
  (f_X13_plain σ (σ 1 6)).bind fun v2 => (if v2.2 = 1 then some (v2.1, 1) else some (v2.1, 0))
theorem ct_X13_isRaining {l : Launch} {cy : ClassId} {ad : Nat → Nat} {G : va_G} (σ : Sm) (hw : wfm σ) (o : Sm × Int) (h : f_X13_isRaining σ = some o) : CtI l yX13_isRaining cX13_isRaining 1 (some .boolean) rm_X13_isRaining (wlm cy ad) wfm G (tym cy) [.ref (ad 0)] σ o.1 o.2 := by
  refine ctI_of (by decide) (Nat.le_of_ble_eq_true rfl) hw o o h (fun X Y w => EndI X Y cX13_isRaining rm_X13_isRaining .boolean w) (fun _ _ h => h) (fun X A Q hX C => ?_)
  replace C : Cx X (Ym cy ad G A 1 Q) cX13_isRaining RX13 (some .boolean) rm_X13_isRaining (tym cy) := C
  show T X (Ym cy ad G A 1 Q) (fun w => EndI X (Ym cy ad G A 1 Q) cX13_isRaining rm_X13_isRaining .boolean w) 0 0 0 [(0, .ref (ad 0))] [] σ (f_X13_isRaining σ)
  unfold f_X13_isRaining
  refine T_aload_n (pc := 0) C dX13_isRaining_0 rfl 0 rfl ?_
  refine T_aload_n (pc := 1) C dX13_isRaining_1 rfl 0 rfl ?_
  refine Tm_getA (pc := 2) C 0 1 (by decide) (fun _ => rfl) kw_152 rfl dX13_isRaining_2 ?_
  refine T_bipush (pc := 5) C dX13_isRaining_5 (by decide) ?_
  refine Tm_iald (pc := 7) C 1 6 ⟨by decide, by decide⟩ ⟨by decide, by decide⟩ rfl dX13_isRaining_7 (fun r1 => ?_)
  refine T_callVi (pc := 8) C [vi (σ 1 6)] [] (fun o h9 hw => ct_X13_plain σ (σ 1 6) r1 hw o h9) kw_314 cm_X13_plain rcm rfl rfl (Nat.le_of_ble_eq_true rfl) (by decide) (a' := 0) (b' := 0) ⟨rfl, rfl⟩ dX13_isRaining_8 (fun v2 hv2 => ?_)
  refine T_iconst (pc := 11) C dX13_isRaining_11 ?_
  refine T_icmp_ne (pc := 12) C 19 dX13_isRaining_12 rfl hv2.1 (rngL rfl) (fun c3 => ?_) (fun c3 => ?_)
  · refine T_iconst (pc := 19) C dX13_isRaining_19 ?_
    exact T_iret (pc := 20) (v2.1, 0) (fun h9 => h9) (rngL rfl) (nar_Z (Or.inl rfl)) (by decide) dX13_isRaining_20
  · refine T_iconst (pc := 15) C dX13_isRaining_15 ?_
    refine T_goto (pc := 16) C 20 dX13_isRaining_16 rfl ?_
    exact T_iret (pc := 20) (v2.1, 1) (fun h9 => h9) (rngL rfl) (nar_Z (Or.inr rfl)) (by decide) dX13_isRaining_20

abbrev rm_X13_stopCount : Room := ⟨1, 0, 0, 21⟩
theorem cm_X13_stopCount : cmV yX13_stopCount cX13_stopCount 1 (some .int) 0 := ⟨kw_64, kw_145, ⟨by decide +kernel, by decide +kernel, by decide +kernel⟩, kw_319, kw_320⟩
def f_X13_stopCount (σ : Sm) : Option (Sm × Int) :=
  (f_X13_plain σ (σ 1 0)).bind fun v2 => some (v2.1, v2.2)
theorem ct_X13_stopCount {l : Launch} {cy : ClassId} {ad : Nat → Nat} {G : va_G} (σ : Sm) (hw : wfm σ) (o : Sm × Int) (h : f_X13_stopCount σ = some o) : CtI l yX13_stopCount cX13_stopCount 1 (some .int) rm_X13_stopCount (wlm cy ad) wfm G (tym cy) [.ref (ad 0)] σ o.1 o.2 := by
  refine ctI_of (by decide) (Nat.le_of_ble_eq_true rfl) hw o o h (fun X Y w => EndI X Y cX13_stopCount rm_X13_stopCount .int w) (fun _ _ h => h) (fun X A Q hX C => ?_)
  replace C : Cx X (Ym cy ad G A 1 Q) cX13_stopCount RX13 (some .int) rm_X13_stopCount (tym cy) := C
  show T X (Ym cy ad G A 1 Q) (fun w => EndI X (Ym cy ad G A 1 Q) cX13_stopCount rm_X13_stopCount .int w) 0 0 0 [(0, .ref (ad 0))] [] σ (f_X13_stopCount σ)
  unfold f_X13_stopCount
  refine T_aload_n (pc := 0) C dX13_stopCount_0 rfl 0 rfl ?_
  refine T_aload_n (pc := 1) C dX13_stopCount_1 rfl 0 rfl ?_
  refine Tm_getA (pc := 2) C 0 1 (by decide) (fun _ => rfl) kw_152 rfl dX13_stopCount_2 ?_
  refine T_iconst (pc := 5) C dX13_stopCount_5 ?_
  refine Tm_iald (pc := 6) C 1 0 ⟨by decide, by decide⟩ ⟨by decide, by decide⟩ rfl dX13_stopCount_6 (fun r1 => ?_)
  refine T_callVi (pc := 7) C [vi (σ 1 0)] [] (fun o h9 hw => ct_X13_plain σ (σ 1 0) r1 hw o h9) kw_314 cm_X13_plain rcm rfl rfl (Nat.le_of_ble_eq_true rfl) (by decide) (a' := 0) (b' := 0) ⟨rfl, rfl⟩ dX13_stopCount_7 (fun v2 hv2 => ?_)
  exact T_iret (pc := 10) (v2.1, v2.2) (fun h9 => h9) hv2.1 (nar_I _) (by decide) dX13_stopCount_10

abbrev rm_X13_transferMinutes : Room := ⟨2, 0, 0, 43⟩
theorem cm_X13_transferMinutes : cmV yX13_transferMinutes cX13_transferMinutes 2 (some .int) 1 := ⟨kw_65, kw_145, ⟨by decide +kernel, by decide +kernel, by decide +kernel⟩, kw_323, kw_324⟩
def f_X13_transferMinutes (σ : Sm) (x1 : Int) : Option (Sm × Int) :=
  (f_X13_isStop σ x1).bind fun v1 => (f_X13_checked σ v1).bind fun v2 => (if v2.2 ≤ 0 then (f_X13_transfer v2.1 x1).bind fun v4 => some (v2.1, v4) else some (v2.1, 0))
theorem ct_X13_transferMinutes {l : Launch} {cy : ClassId} {ad : Nat → Nat} {G : va_G} (σ : Sm) (x1 : Int) (h1 : rng x1) (hw : wfm σ) (o : Sm × Int) (h : f_X13_transferMinutes σ x1 = some o) : CtI l yX13_transferMinutes cX13_transferMinutes 2 (some .int) rm_X13_transferMinutes (wlm cy ad) wfm G (tym cy) [.ref (ad 0), vi x1] σ o.1 o.2 := by
  refine ctI_of (by decide) (Nat.le_of_ble_eq_true rfl) hw o o h (fun X Y w => EndI X Y cX13_transferMinutes rm_X13_transferMinutes .int w) (fun _ _ h => h) (fun X A Q hX C => ?_)
  replace C : Cx X (Ym cy ad G A 2 Q) cX13_transferMinutes RX13 (some .int) rm_X13_transferMinutes (tym cy) := C
  show T X (Ym cy ad G A 2 Q) (fun w => EndI X (Ym cy ad G A 2 Q) cX13_transferMinutes rm_X13_transferMinutes .int w) 0 0 0 [(0, .ref (ad 0)), (1, vi x1)] [] σ (f_X13_transferMinutes σ x1)
  unfold f_X13_transferMinutes
  refine T_aload_n (pc := 0) C dX13_transferMinutes_0 rfl 0 rfl ?_
  refine T_aload_n (pc := 1) C dX13_transferMinutes_1 rfl 0 rfl ?_
  refine T_iload_n (pc := 2) C dX13_transferMinutes_2 rfl 1 rfl ?_
  refine T_callVip (pc := 3) C [vi x1] [.ref (ad 0)] (fun o h9 hw => ct_X13_isStop σ x1 h1 hw o h9) kw_164 cm_X13_isStop rcm rfl rfl (Nat.le_of_ble_eq_true rfl) (by decide) (a' := 0) (b' := 0) ⟨rfl, rfl⟩ dX13_transferMinutes_3 (fun v1 hv1 => ?_)
  refine T_callVi (pc := 6) C [vi v1] [] (fun o h9 hw => ct_X13_checked σ v1 (bit_of_nar hv1) hw o h9) kw_321 cm_X13_checked rcm rfl rfl (Nat.le_of_ble_eq_true rfl) (by decide) (a' := 0) (b' := 0) ⟨rfl, rfl⟩ dX13_transferMinutes_6 (fun v2 hv2 => ?_)
  refine T_if_le (pc := 9) C 16 dX13_transferMinutes_9 rfl hv2.1 (fun c3 => ?_) (fun c3 => ?_)
  · refine T_aload_n (pc := 16) C dX13_transferMinutes_16 rfl 0 rfl ?_
    refine T_iload_n (pc := 17) C dX13_transferMinutes_17 rfl 1 rfl ?_
    refine T_callVip (pc := 18) C [vi x1] [] (fun o h9 hw => ct_X13_transfer v2.1 x1 h1 hw o h9) kw_322 cm_X13_transfer rcm rfl rfl (Nat.le_of_ble_eq_true rfl) (by decide) (a' := 0) (b' := 0) ⟨rfl, rfl⟩ dX13_transferMinutes_18 (fun v4 hv4 => ?_)
    exact T_iret (pc := 21) (v2.1, v4) (fun h9 => h9) hv4.1 (nar_I _) (by decide) dX13_transferMinutes_21
  · refine T_iconst (pc := 12) C dX13_transferMinutes_12 ?_
    refine T_goto (pc := 13) C 21 dX13_transferMinutes_13 rfl ?_
    exact T_iret (pc := 21) (v2.1, 0) (fun h9 => h9) (rngL rfl) (nar_I _) (by decide) dX13_transferMinutes_21

abbrev rm_X13_isClosed : Room := ⟨2, 0, 0, 43⟩
theorem cm_X13_isClosed : cmV yX13_isClosed cX13_isClosed 2 (some .boolean) 1 := ⟨kw_66, kw_145, ⟨by decide +kernel, by decide +kernel, by decide +kernel⟩, kw_326, kw_327⟩
def f_X13_isClosed (σ : Sm) (x1 : Int) : Option (Sm × Int) :=
  (f_X13_isStop σ x1).bind fun v1 => (f_X13_checked σ v1).bind fun v2 => (if v2.2 = 0 then (f_X13_isOpen v2.1 x1).bind fun v4 => (if v4 = 0 then some (v2.1, 1) else some (v2.1, 0)) else some (v2.1, 0))
theorem ct_X13_isClosed {l : Launch} {cy : ClassId} {ad : Nat → Nat} {G : va_G} (σ : Sm) (x1 : Int) (h1 : rng x1) (hw : wfm σ) (o : Sm × Int) (h : f_X13_isClosed σ x1 = some o) : CtI l yX13_isClosed cX13_isClosed 2 (some .boolean) rm_X13_isClosed (wlm cy ad) wfm G (tym cy) [.ref (ad 0), vi x1] σ o.1 o.2 := by
  refine ctI_of (by decide) (Nat.le_of_ble_eq_true rfl) hw o o h (fun X Y w => EndI X Y cX13_isClosed rm_X13_isClosed .boolean w) (fun _ _ h => h) (fun X A Q hX C => ?_)
  replace C : Cx X (Ym cy ad G A 2 Q) cX13_isClosed RX13 (some .boolean) rm_X13_isClosed (tym cy) := C
  show T X (Ym cy ad G A 2 Q) (fun w => EndI X (Ym cy ad G A 2 Q) cX13_isClosed rm_X13_isClosed .boolean w) 0 0 0 [(0, .ref (ad 0)), (1, vi x1)] [] σ (f_X13_isClosed σ x1)
  unfold f_X13_isClosed
  refine T_aload_n (pc := 0) C dX13_isClosed_0 rfl 0 rfl ?_
  refine T_aload_n (pc := 1) C dX13_isClosed_1 rfl 0 rfl ?_
  refine T_iload_n (pc := 2) C dX13_isClosed_2 rfl 1 rfl ?_
  refine T_callVip (pc := 3) C [vi x1] [.ref (ad 0)] (fun o h9 hw => ct_X13_isStop σ x1 h1 hw o h9) kw_164 cm_X13_isStop rcm rfl rfl (Nat.le_of_ble_eq_true rfl) (by decide) (a' := 0) (b' := 0) ⟨rfl, rfl⟩ dX13_isClosed_3 (fun v1 hv1 => ?_)
  refine T_callVi (pc := 6) C [vi v1] [] (fun o h9 hw => ct_X13_checked σ v1 (bit_of_nar hv1) hw o h9) kw_321 cm_X13_checked rcm rfl rfl (Nat.le_of_ble_eq_true rfl) (by decide) (a' := 0) (b' := 0) ⟨rfl, rfl⟩ dX13_isClosed_6 (fun v2 hv2 => ?_)
  refine T_if_ne (pc := 9) C 24 dX13_isClosed_9 rfl hv2.1 (fun c3 => ?_) (fun c3 => ?_)
  · refine T_iconst (pc := 24) C dX13_isClosed_24 ?_
    exact T_iret (pc := 25) (v2.1, 0) (fun h9 => h9) (rngL rfl) (nar_Z (Or.inl rfl)) (by decide) dX13_isClosed_25
  · refine T_aload_n (pc := 12) C dX13_isClosed_12 rfl 0 rfl ?_
    refine T_iload_n (pc := 13) C dX13_isClosed_13 rfl 1 rfl ?_
    refine T_callVip (pc := 14) C [vi x1] [] (fun o h9 hw => ct_X13_isOpen v2.1 x1 h1 hw o h9) kw_325 cm_X13_isOpen rcm rfl rfl (Nat.le_of_ble_eq_true rfl) (by decide) (a' := 0) (b' := 0) ⟨rfl, rfl⟩ dX13_isClosed_14 (fun v4 hv4 => ?_)
    refine T_if_ne (pc := 17) C 24 dX13_isClosed_17 rfl hv4.1 (fun c5 => ?_) (fun c5 => ?_)
    · refine T_iconst (pc := 24) C dX13_isClosed_24 ?_
      exact T_iret (pc := 25) (v2.1, 0) (fun h9 => h9) (rngL rfl) (nar_Z (Or.inl rfl)) (by decide) dX13_isClosed_25
    · refine T_iconst (pc := 20) C dX13_isClosed_20 ?_
      refine T_goto (pc := 21) C 25 dX13_isClosed_21 rfl ?_
      exact T_iret (pc := 25) (v2.1, 1) (fun h9 => h9) (rngL rfl) (nar_Z (Or.inr rfl)) (by decide) dX13_isClosed_25

abbrev rm_X13_walkMinutes : Room := ⟨4, 0, 0, 87⟩
theorem cm_X13_walkMinutes : cmV yX13_walkMinutes cX13_walkMinutes 3 (some .int) 2 := ⟨kw_67, kw_145, ⟨by decide +kernel, by decide +kernel, by decide +kernel⟩, kw_328, kw_329⟩
def f_X13_walkMinutes (σ : Sm) (x1 : Int) (x2 : Int) : Option (Sm × Int) :=
  (f_X13_noWalk σ x1 x2).bind fun v1 => bl (upm σ 11 0 v1) fun s2 => (if (s2 11 0) ≤ 0 then (f_X13_walk s2 x1 x2).bind fun v5 => some (s2, v5) else some (s2, 0))
theorem ct_X13_walkMinutes {l : Launch} {cy : ClassId} {ad : Nat → Nat} {G : va_G} (σ : Sm) (x1 : Int) (x2 : Int) (h1 : rng x1) (h2 : rng x2) (hw : wfm σ) (o : Sm × Int) (h : f_X13_walkMinutes σ x1 x2 = some o) : CtI l yX13_walkMinutes cX13_walkMinutes 3 (some .int) rm_X13_walkMinutes (wlm cy ad) wfm G (tym cy) [.ref (ad 0), vi x1, vi x2] σ o.1 o.2 := by
  refine ctI_of (by decide) (Nat.le_of_ble_eq_true rfl) hw o o h (fun X Y w => EndI X Y cX13_walkMinutes rm_X13_walkMinutes .int w) (fun _ _ h => h) (fun X A Q hX C => ?_)
  replace C : Cx X (Ym cy ad G A 3 Q) cX13_walkMinutes RX13 (some .int) rm_X13_walkMinutes (tym cy) := C
  show T X (Ym cy ad G A 3 Q) (fun w => EndI X (Ym cy ad G A 3 Q) cX13_walkMinutes rm_X13_walkMinutes .int w) 0 0 0 [(0, .ref (ad 0)), (1, vi x1), (2, vi x2)] [] σ (f_X13_walkMinutes σ x1 x2)
  unfold f_X13_walkMinutes
  refine T_aload_n (pc := 0) C dX13_walkMinutes_0 rfl 0 rfl ?_
  refine T_aload_n (pc := 1) C dX13_walkMinutes_1 rfl 0 rfl ?_
  refine T_iload_n (pc := 2) C dX13_walkMinutes_2 rfl 1 rfl ?_
  refine T_iload_n (pc := 3) C dX13_walkMinutes_3 rfl 2 rfl ?_
  refine T_callVip (pc := 4) C [vi x1, vi x2] [.ref (ad 0)] (fun o h9 hw => ct_X13_noWalk σ x1 x2 h1 h2 hw o h9) kw_201 cm_X13_noWalk rcm rfl rfl (Nat.le_of_ble_eq_true rfl) (by decide) (a' := 0) (b' := 0) ⟨rfl, rfl⟩ dX13_walkMinutes_4 (fun v1 hv1 => ?_)
  refine Tm_put (pc := 7) C (ty := .int) 11 ⟨by decide, by decide⟩ hv1.1 kw_144 rfl (nar_I _) (fit_I _) dX13_walkMinutes_7 ?_
  refine T_blS (fun s2 => ?_)
  refine T_aload_n (pc := 10) C dX13_walkMinutes_10 rfl 0 rfl ?_
  refine Tm_get (pc := 11) C 11 ⟨by decide, by decide⟩ kw_144 dX13_walkMinutes_11 (fun r3 => ?_)
  refine T_if_le (pc := 14) C 21 dX13_walkMinutes_14 rfl r3 (fun c4 => ?_) (fun c4 => ?_)
  · refine T_aload_n (pc := 21) C dX13_walkMinutes_21 rfl 0 rfl ?_
    refine T_iload_n (pc := 22) C dX13_walkMinutes_22 rfl 1 rfl ?_
    refine T_iload_n (pc := 23) C dX13_walkMinutes_23 rfl 2 rfl ?_
    refine T_callVip (pc := 24) C [vi x1, vi x2] [] (fun o h9 hw => ct_X13_walk s2 x1 x2 h1 h2 hw o h9) kw_185 cm_X13_walk rcm rfl rfl (Nat.le_of_ble_eq_true rfl) (by decide) (a' := 0) (b' := 0) ⟨rfl, rfl⟩ dX13_walkMinutes_24 (fun v5 hv5 => ?_)
    exact T_iret (pc := 27) (s2, v5) (fun h9 => h9) hv5.1 (nar_I _) (by decide) dX13_walkMinutes_27
  · refine T_iconst (pc := 17) C dX13_walkMinutes_17 ?_
    refine T_goto (pc := 18) C 27 dX13_walkMinutes_18 rfl ?_
    exact T_iret (pc := 27) (s2, 0) (fun h9 => h9) (rngL rfl) (nar_I _) (by decide) dX13_walkMinutes_27

abbrev rm_X13_lineCount : Room := ⟨1, 0, 0, 21⟩
theorem cm_X13_lineCount : cmV yX13_lineCount cX13_lineCount 1 (some .int) 0 := ⟨kw_68, kw_145, ⟨by decide +kernel, by decide +kernel, by decide +kernel⟩, kw_330, kw_331⟩
def f_X13_lineCount (σ : Sm) : Option (Sm × Int) :=
  (f_X13_plain σ (σ 1 2)).bind fun v2 => some (v2.1, v2.2)
theorem ct_X13_lineCount {l : Launch} {cy : ClassId} {ad : Nat → Nat} {G : va_G} (σ : Sm) (hw : wfm σ) (o : Sm × Int) (h : f_X13_lineCount σ = some o) : CtI l yX13_lineCount cX13_lineCount 1 (some .int) rm_X13_lineCount (wlm cy ad) wfm G (tym cy) [.ref (ad 0)] σ o.1 o.2 := by
  refine ctI_of (by decide) (Nat.le_of_ble_eq_true rfl) hw o o h (fun X Y w => EndI X Y cX13_lineCount rm_X13_lineCount .int w) (fun _ _ h => h) (fun X A Q hX C => ?_)
  replace C : Cx X (Ym cy ad G A 1 Q) cX13_lineCount RX13 (some .int) rm_X13_lineCount (tym cy) := C
  show T X (Ym cy ad G A 1 Q) (fun w => EndI X (Ym cy ad G A 1 Q) cX13_lineCount rm_X13_lineCount .int w) 0 0 0 [(0, .ref (ad 0))] [] σ (f_X13_lineCount σ)
  unfold f_X13_lineCount
  refine T_aload_n (pc := 0) C dX13_lineCount_0 rfl 0 rfl ?_
  refine T_aload_n (pc := 1) C dX13_lineCount_1 rfl 0 rfl ?_
  refine Tm_getA (pc := 2) C 0 1 (by decide) (fun _ => rfl) kw_152 rfl dX13_lineCount_2 ?_
  refine T_iconst (pc := 5) C dX13_lineCount_5 ?_
  refine Tm_iald (pc := 6) C 1 2 ⟨by decide, by decide⟩ ⟨by decide, by decide⟩ rfl dX13_lineCount_6 (fun r1 => ?_)
  refine T_callVi (pc := 7) C [vi (σ 1 2)] [] (fun o h9 hw => ct_X13_plain σ (σ 1 2) r1 hw o h9) kw_314 cm_X13_plain rcm rfl rfl (Nat.le_of_ble_eq_true rfl) (by decide) (a' := 0) (b' := 0) ⟨rfl, rfl⟩ dX13_lineCount_7 (fun v2 hv2 => ?_)
  exact T_iret (pc := 10) (v2.1, v2.2) (fun h9 => h9) hv2.1 (nar_I _) (by decide) dX13_lineCount_10

abbrev rm_X13_ringSize : Room := ⟨2, 0, 0, 43⟩
theorem cm_X13_ringSize : cmV yX13_ringSize cX13_ringSize 2 (some .int) 1 := ⟨kw_69, kw_145, ⟨by decide +kernel, by decide +kernel, by decide +kernel⟩, kw_332, kw_333⟩
def f_X13_ringSize (σ : Sm) (x1 : Int) : Option (Sm × Int) :=
  (f_X13_isLine σ x1).bind fun v1 => (f_X13_checked σ v1).bind fun v2 => (if v2.2 ≤ 0 then (f_X13_l v2.1 x1 5).bind fun v4 => some (v2.1, v4) else some (v2.1, 0))
theorem ct_X13_ringSize {l : Launch} {cy : ClassId} {ad : Nat → Nat} {G : va_G} (σ : Sm) (x1 : Int) (h1 : rng x1) (hw : wfm σ) (o : Sm × Int) (h : f_X13_ringSize σ x1 = some o) : CtI l yX13_ringSize cX13_ringSize 2 (some .int) rm_X13_ringSize (wlm cy ad) wfm G (tym cy) [.ref (ad 0), vi x1] σ o.1 o.2 := by
  refine ctI_of (by decide) (Nat.le_of_ble_eq_true rfl) hw o o h (fun X Y w => EndI X Y cX13_ringSize rm_X13_ringSize .int w) (fun _ _ h => h) (fun X A Q hX C => ?_)
  replace C : Cx X (Ym cy ad G A 2 Q) cX13_ringSize RX13 (some .int) rm_X13_ringSize (tym cy) := C
  show T X (Ym cy ad G A 2 Q) (fun w => EndI X (Ym cy ad G A 2 Q) cX13_ringSize rm_X13_ringSize .int w) 0 0 0 [(0, .ref (ad 0)), (1, vi x1)] [] σ (f_X13_ringSize σ x1)
  unfold f_X13_ringSize
  refine T_aload_n (pc := 0) C dX13_ringSize_0 rfl 0 rfl ?_
  refine T_aload_n (pc := 1) C dX13_ringSize_1 rfl 0 rfl ?_
  refine T_iload_n (pc := 2) C dX13_ringSize_2 rfl 1 rfl ?_
  refine T_callVip (pc := 3) C [vi x1] [.ref (ad 0)] (fun o h9 hw => ct_X13_isLine σ x1 h1 hw o h9) kw_240 cm_X13_isLine rcm rfl rfl (Nat.le_of_ble_eq_true rfl) (by decide) (a' := 0) (b' := 0) ⟨rfl, rfl⟩ dX13_ringSize_3 (fun v1 hv1 => ?_)
  refine T_callVi (pc := 6) C [vi v1] [] (fun o h9 hw => ct_X13_checked σ v1 (bit_of_nar hv1) hw o h9) kw_321 cm_X13_checked rcm rfl rfl (Nat.le_of_ble_eq_true rfl) (by decide) (a' := 0) (b' := 0) ⟨rfl, rfl⟩ dX13_ringSize_6 (fun v2 hv2 => ?_)
  refine T_if_le (pc := 9) C 16 dX13_ringSize_9 rfl hv2.1 (fun c3 => ?_) (fun c3 => ?_)
  · refine T_aload_n (pc := 16) C dX13_ringSize_16 rfl 0 rfl ?_
    refine T_iload_n (pc := 17) C dX13_ringSize_17 rfl 1 rfl ?_
    refine T_iconst (pc := 18) C dX13_ringSize_18 ?_
    refine T_callVip (pc := 19) C [vi x1, vi 5] [] (fun o h9 hw => ct_X13_l v2.1 x1 5 h1 (rngL rfl) hw o h9) kw_211 cm_X13_l rcm rfl rfl (Nat.le_of_ble_eq_true rfl) (by decide) (a' := 0) (b' := 0) ⟨rfl, rfl⟩ dX13_ringSize_19 (fun v4 hv4 => ?_)
    exact T_iret (pc := 22) (v2.1, v4) (fun h9 => h9) hv4.1 (nar_I _) (by decide) dX13_ringSize_22
  · refine T_iconst (pc := 12) C dX13_ringSize_12 ?_
    refine T_goto (pc := 13) C 22 dX13_ringSize_13 rfl ?_
    exact T_iret (pc := 22) (v2.1, 0) (fun h9 => h9) (rngL rfl) (nar_I _) (by decide) dX13_ringSize_22

abbrev rm_X13_stopAt : Room := ⟨2, 0, 0, 44⟩
theorem cm_X13_stopAt : cmV yX13_stopAt cX13_stopAt 3 (some .int) 2 := ⟨kw_70, kw_145, ⟨by decide +kernel, by decide +kernel, by decide +kernel⟩, kw_335, kw_336⟩
def f_X13_stopAt (σ : Sm) (x1 : Int) (x2 : Int) : Option (Sm × Int) :=
  (f_X13_isLine σ x1).bind fun v1 => (if v1 = 0 then bl (upm σ 11 0 1) fun s20 => (if (s20 11 0) ≤ 0 then (f_X13_at s20 x1 x2).bind fun v23 => some (s20, v23) else some (s20, 0)) else (f_X13_l σ x1 5).bind fun v3 => (if v3 = 0 then bl (upm σ 11 0 2) fun s5 => (if (s5 11 0) ≤ 0 then (f_X13_at s5 x1 x2).bind fun v8 => some (s5, v8) else some (s5, 0)) else (f_X13_l σ x1 5).bind fun v9 => (f_X13_in x2 0 v9).bind fun v10 => (if v10 = 0 then bl (upm σ 11 0 2) fun s16 => (if (s16 11 0) ≤ 0 then (f_X13_at s16 x1 x2).bind fun v19 => some (s16, v19) else some (s16, 0)) else bl (upm σ 11 0 0) fun s12 => (if (s12 11 0) ≤ 0 then (f_X13_at s12 x1 x2).bind fun v15 => some (s12, v15) else some (s12, 0)))))
theorem ct_X13_stopAt {l : Launch} {cy : ClassId} {ad : Nat → Nat} {G : va_G} (σ : Sm) (x1 : Int) (x2 : Int) (h1 : rng x1) (h2 : rng x2) (hw : wfm σ) (o : Sm × Int) (h : f_X13_stopAt σ x1 x2 = some o) : CtI l yX13_stopAt cX13_stopAt 3 (some .int) rm_X13_stopAt (wlm cy ad) wfm G (tym cy) [.ref (ad 0), vi x1, vi x2] σ o.1 o.2 := by
  refine ctI_of (by decide) (Nat.le_of_ble_eq_true rfl) hw o o h (fun X Y w => EndI X Y cX13_stopAt rm_X13_stopAt .int w) (fun _ _ h => h) (fun X A Q hX C => ?_)
  replace C : Cx X (Ym cy ad G A 3 Q) cX13_stopAt RX13 (some .int) rm_X13_stopAt (tym cy) := C
  show T X (Ym cy ad G A 3 Q) (fun w => EndI X (Ym cy ad G A 3 Q) cX13_stopAt rm_X13_stopAt .int w) 0 0 0 [(0, .ref (ad 0)), (1, vi x1), (2, vi x2)] [] σ (f_X13_stopAt σ x1 x2)
  unfold f_X13_stopAt
  refine T_aload_n (pc := 0) C dX13_stopAt_0 rfl 0 rfl ?_
  refine T_aload_n (pc := 1) C dX13_stopAt_1 rfl 0 rfl ?_
  refine T_iload_n (pc := 2) C dX13_stopAt_2 rfl 1 rfl ?_
  refine T_callVip (pc := 3) C [vi x1] [.ref (ad 0)] (fun o h9 hw => ct_X13_isLine σ x1 h1 hw o h9) kw_240 cm_X13_isLine rcm rfl rfl (Nat.le_of_ble_eq_true rfl) (by decide) (a' := 0) (b' := 0) ⟨rfl, rfl⟩ dX13_stopAt_3 (fun v1 hv1 => ?_)
  refine T_if_ne (pc := 6) C 13 dX13_stopAt_6 rfl hv1.1 (fun c2 => ?_) (fun c2 => ?_)
  · refine T_aload_n (pc := 13) C dX13_stopAt_13 rfl 0 rfl ?_
    refine T_iload_n (pc := 14) C dX13_stopAt_14 rfl 1 rfl ?_
    refine T_iconst (pc := 15) C dX13_stopAt_15 ?_
    refine T_callVip (pc := 16) C [vi x1, vi 5] [.ref (ad 0)] (fun o h9 hw => ct_X13_l σ x1 5 h1 (rngL rfl) hw o h9) kw_211 cm_X13_l rcm rfl rfl (Nat.le_of_ble_eq_true rfl) (by decide) (a' := 0) (b' := 0) ⟨rfl, rfl⟩ dX13_stopAt_16 (fun v3 hv3 => ?_)
    refine T_if_eq (pc := 19) C 36 dX13_stopAt_19 rfl hv3.1 (fun c4 => ?_) (fun c4 => ?_)
    · refine T_iconst (pc := 36) C dX13_stopAt_36 ?_
      refine T_goto (pc := 37) C 41 dX13_stopAt_37 rfl ?_
      refine Tm_put (pc := 41) C (ty := .int) 11 ⟨by decide, by decide⟩ (rngL rfl) kw_144 rfl (nar_I _) (fit_I _) dX13_stopAt_41 ?_
      refine T_blS (fun s5 => ?_)
      refine T_aload_n (pc := 44) C dX13_stopAt_44 rfl 0 rfl ?_
      refine Tm_get (pc := 45) C 11 ⟨by decide, by decide⟩ kw_144 dX13_stopAt_45 (fun r6 => ?_)
      refine T_if_le (pc := 48) C 55 dX13_stopAt_48 rfl r6 (fun c7 => ?_) (fun c7 => ?_)
      · refine T_aload_n (pc := 55) C dX13_stopAt_55 rfl 0 rfl ?_
        refine T_iload_n (pc := 56) C dX13_stopAt_56 rfl 1 rfl ?_
        refine T_iload_n (pc := 57) C dX13_stopAt_57 rfl 2 rfl ?_
        refine T_callVip (pc := 58) C [vi x1, vi x2] [] (fun o h9 hw => ct_X13_at s5 x1 x2 h1 h2 hw o h9) kw_334 cm_X13_at rcm rfl rfl (Nat.le_of_ble_eq_true rfl) (by decide) (a' := 0) (b' := 0) ⟨rfl, rfl⟩ dX13_stopAt_58 (fun v8 hv8 => ?_)
        exact T_iret (pc := 61) (s5, v8) (fun h9 => h9) hv8.1 (nar_I _) (by decide) dX13_stopAt_61
      · refine T_iconst (pc := 51) C dX13_stopAt_51 ?_
        refine T_goto (pc := 52) C 61 dX13_stopAt_52 rfl ?_
        exact T_iret (pc := 61) (s5, 0) (fun h9 => h9) (rngL rfl) (nar_I _) (by decide) dX13_stopAt_61
    · refine T_iload_n (pc := 22) C dX13_stopAt_22 rfl 2 rfl ?_
      refine T_iconst (pc := 23) C dX13_stopAt_23 ?_
      refine T_aload_n (pc := 24) C dX13_stopAt_24 rfl 0 rfl ?_
      refine T_iload_n (pc := 25) C dX13_stopAt_25 rfl 1 rfl ?_
      refine T_iconst (pc := 26) C dX13_stopAt_26 ?_
      refine T_callVip (pc := 27) C [vi x1, vi 5] [vi 0, vi x2, .ref (ad 0)] (fun o h9 hw => ct_X13_l σ x1 5 h1 (rngL rfl) hw o h9) kw_211 cm_X13_l rcm rfl rfl (Nat.le_of_ble_eq_true rfl) (by decide) (a' := 0) (b' := 0) ⟨rfl, rfl⟩ dX13_stopAt_27 (fun v9 hv9 => ?_)
      refine T_callSip (pc := 30) C [vi x2, vi 0, vi v9] [.ref (ad 0)] (fun o h9 hw => ct_X13_in σ x2 0 v9 h2 (rngL rfl) hv9.1 hw o h9) kw_161 cm_X13_in rfl rfl (Nat.le_of_ble_eq_true rfl) (by decide) (a' := 0) (b' := 0) ⟨rfl, rfl⟩ dX13_stopAt_30 (fun v10 hv10 => ?_)
      refine T_if_ne (pc := 33) C 40 dX13_stopAt_33 rfl hv10.1 (fun c11 => ?_) (fun c11 => ?_)
      · refine T_iconst (pc := 40) C dX13_stopAt_40 ?_
        refine Tm_put (pc := 41) C (ty := .int) 11 ⟨by decide, by decide⟩ (rngL rfl) kw_144 rfl (nar_I _) (fit_I _) dX13_stopAt_41 ?_
        refine T_blS (fun s12 => ?_)
        refine T_aload_n (pc := 44) C dX13_stopAt_44 rfl 0 rfl ?_
        refine Tm_get (pc := 45) C 11 ⟨by decide, by decide⟩ kw_144 dX13_stopAt_45 (fun r13 => ?_)
        refine T_if_le (pc := 48) C 55 dX13_stopAt_48 rfl r13 (fun c14 => ?_) (fun c14 => ?_)
        · refine T_aload_n (pc := 55) C dX13_stopAt_55 rfl 0 rfl ?_
          refine T_iload_n (pc := 56) C dX13_stopAt_56 rfl 1 rfl ?_
          refine T_iload_n (pc := 57) C dX13_stopAt_57 rfl 2 rfl ?_
          refine T_callVip (pc := 58) C [vi x1, vi x2] [] (fun o h9 hw => ct_X13_at s12 x1 x2 h1 h2 hw o h9) kw_334 cm_X13_at rcm rfl rfl (Nat.le_of_ble_eq_true rfl) (by decide) (a' := 0) (b' := 0) ⟨rfl, rfl⟩ dX13_stopAt_58 (fun v15 hv15 => ?_)
          exact T_iret (pc := 61) (s12, v15) (fun h9 => h9) hv15.1 (nar_I _) (by decide) dX13_stopAt_61
        · refine T_iconst (pc := 51) C dX13_stopAt_51 ?_
          refine T_goto (pc := 52) C 61 dX13_stopAt_52 rfl ?_
          exact T_iret (pc := 61) (s12, 0) (fun h9 => h9) (rngL rfl) (nar_I _) (by decide) dX13_stopAt_61
      · refine T_iconst (pc := 36) C dX13_stopAt_36 ?_
        refine T_goto (pc := 37) C 41 dX13_stopAt_37 rfl ?_
        refine Tm_put (pc := 41) C (ty := .int) 11 ⟨by decide, by decide⟩ (rngL rfl) kw_144 rfl (nar_I _) (fit_I _) dX13_stopAt_41 ?_
        refine T_blS (fun s16 => ?_)
        refine T_aload_n (pc := 44) C dX13_stopAt_44 rfl 0 rfl ?_
        refine Tm_get (pc := 45) C 11 ⟨by decide, by decide⟩ kw_144 dX13_stopAt_45 (fun r17 => ?_)
        refine T_if_le (pc := 48) C 55 dX13_stopAt_48 rfl r17 (fun c18 => ?_) (fun c18 => ?_)
        · refine T_aload_n (pc := 55) C dX13_stopAt_55 rfl 0 rfl ?_
          refine T_iload_n (pc := 56) C dX13_stopAt_56 rfl 1 rfl ?_
          refine T_iload_n (pc := 57) C dX13_stopAt_57 rfl 2 rfl ?_
          refine T_callVip (pc := 58) C [vi x1, vi x2] [] (fun o h9 hw => ct_X13_at s16 x1 x2 h1 h2 hw o h9) kw_334 cm_X13_at rcm rfl rfl (Nat.le_of_ble_eq_true rfl) (by decide) (a' := 0) (b' := 0) ⟨rfl, rfl⟩ dX13_stopAt_58 (fun v19 hv19 => ?_)
          exact T_iret (pc := 61) (s16, v19) (fun h9 => h9) hv19.1 (nar_I _) (by decide) dX13_stopAt_61
        · refine T_iconst (pc := 51) C dX13_stopAt_51 ?_
          refine T_goto (pc := 52) C 61 dX13_stopAt_52 rfl ?_
          exact T_iret (pc := 61) (s16, 0) (fun h9 => h9) (rngL rfl) (nar_I _) (by decide) dX13_stopAt_61
  · refine T_iconst (pc := 9) C dX13_stopAt_9 ?_
    refine T_goto (pc := 10) C 41 dX13_stopAt_10 rfl ?_
    refine Tm_put (pc := 41) C (ty := .int) 11 ⟨by decide, by decide⟩ (rngL rfl) kw_144 rfl (nar_I _) (fit_I _) dX13_stopAt_41 ?_
    refine T_blS (fun s20 => ?_)
    refine T_aload_n (pc := 44) C dX13_stopAt_44 rfl 0 rfl ?_
    refine Tm_get (pc := 45) C 11 ⟨by decide, by decide⟩ kw_144 dX13_stopAt_45 (fun r21 => ?_)
    refine T_if_le (pc := 48) C 55 dX13_stopAt_48 rfl r21 (fun c22 => ?_) (fun c22 => ?_)
    · refine T_aload_n (pc := 55) C dX13_stopAt_55 rfl 0 rfl ?_
      refine T_iload_n (pc := 56) C dX13_stopAt_56 rfl 1 rfl ?_
      refine T_iload_n (pc := 57) C dX13_stopAt_57 rfl 2 rfl ?_
      refine T_callVip (pc := 58) C [vi x1, vi x2] [] (fun o h9 hw => ct_X13_at s20 x1 x2 h1 h2 hw o h9) kw_334 cm_X13_at rcm rfl rfl (Nat.le_of_ble_eq_true rfl) (by decide) (a' := 0) (b' := 0) ⟨rfl, rfl⟩ dX13_stopAt_58 (fun v23 hv23 => ?_)
      exact T_iret (pc := 61) (s20, v23) (fun h9 => h9) hv23.1 (nar_I _) (by decide) dX13_stopAt_61
    · refine T_iconst (pc := 51) C dX13_stopAt_51 ?_
      refine T_goto (pc := 52) C 61 dX13_stopAt_52 rfl ?_
      exact T_iret (pc := 61) (s20, 0) (fun h9 => h9) (rngL rfl) (nar_I _) (by decide) dX13_stopAt_61

abbrev rm_X13_positionOf : Room := ⟨2, 0, 0, 45⟩
theorem cm_X13_positionOf : cmV yX13_positionOf cX13_positionOf 3 (some .int) 2 := ⟨kw_71, kw_145, ⟨by decide +kernel, by decide +kernel, by decide +kernel⟩, kw_337, kw_338⟩
def f_X13_positionOf (N : Nat) (σ : Sm) (x1 : Int) (x2 : Int) : Option (Sm × Int) :=
  (f_X13_isLine σ x1).bind fun v1 => (if v1 = 0 then bl (upm σ 11 0 1) fun s3 => (if (s3 11 0) ≤ 0 then (f_X13_placeIn N s3 x1 x2).bind fun v6 => some (s3, v6) else some (s3, 0)) else (f_X13_isStop σ x2).bind fun v7 => (if v7 = 0 then bl (upm σ 11 0 1) fun s19 => (if (s19 11 0) ≤ 0 then (f_X13_placeIn N s19 x1 x2).bind fun v22 => some (s19, v22) else some (s19, 0)) else (f_X13_placeIn N σ x1 x2).bind fun v9 => (if 0 ≤ v9 then bl (upm σ 11 0 0) fun s11 => (if (s11 11 0) ≤ 0 then (f_X13_placeIn N s11 x1 x2).bind fun v14 => some (s11, v14) else some (s11, 0)) else bl (upm σ 11 0 2) fun s15 => (if (s15 11 0) ≤ 0 then (f_X13_placeIn N s15 x1 x2).bind fun v18 => some (s15, v18) else some (s15, 0)))))
theorem ct_X13_positionOf {l : Launch} {cy : ClassId} {ad : Nat → Nat} {G : va_G} (N : Nat) (σ : Sm) (x1 : Int) (x2 : Int) (h1 : rng x1) (h2 : rng x2) (hw : wfm σ) (o : Sm × Int) (h : f_X13_positionOf N σ x1 x2 = some o) : CtI l yX13_positionOf cX13_positionOf 3 (some .int) rm_X13_positionOf (wlm cy ad) wfm G (tym cy) [.ref (ad 0), vi x1, vi x2] σ o.1 o.2 := by
  refine ctI_of (by decide) (Nat.le_of_ble_eq_true rfl) hw o o h (fun X Y w => EndI X Y cX13_positionOf rm_X13_positionOf .int w) (fun _ _ h => h) (fun X A Q hX C => ?_)
  replace C : Cx X (Ym cy ad G A 3 Q) cX13_positionOf RX13 (some .int) rm_X13_positionOf (tym cy) := C
  show T X (Ym cy ad G A 3 Q) (fun w => EndI X (Ym cy ad G A 3 Q) cX13_positionOf rm_X13_positionOf .int w) 0 0 0 [(0, .ref (ad 0)), (1, vi x1), (2, vi x2)] [] σ (f_X13_positionOf N σ x1 x2)
  unfold f_X13_positionOf
  refine T_aload_n (pc := 0) C dX13_positionOf_0 rfl 0 rfl ?_
  refine T_aload_n (pc := 1) C dX13_positionOf_1 rfl 0 rfl ?_
  refine T_iload_n (pc := 2) C dX13_positionOf_2 rfl 1 rfl ?_
  refine T_callVip (pc := 3) C [vi x1] [.ref (ad 0)] (fun o h9 hw => ct_X13_isLine σ x1 h1 hw o h9) kw_240 cm_X13_isLine rcm rfl rfl (Nat.le_of_ble_eq_true rfl) (by decide) (a' := 0) (b' := 0) ⟨rfl, rfl⟩ dX13_positionOf_3 (fun v1 hv1 => ?_)
  refine T_if_eq (pc := 6) C 17 dX13_positionOf_6 rfl hv1.1 (fun c2 => ?_) (fun c2 => ?_)
  · refine T_iconst (pc := 17) C dX13_positionOf_17 ?_
    refine T_goto (pc := 18) C 35 dX13_positionOf_18 rfl ?_
    refine Tm_put (pc := 35) C (ty := .int) 11 ⟨by decide, by decide⟩ (rngL rfl) kw_144 rfl (nar_I _) (fit_I _) dX13_positionOf_35 ?_
    refine T_blS (fun s3 => ?_)
    refine T_aload_n (pc := 38) C dX13_positionOf_38 rfl 0 rfl ?_
    refine Tm_get (pc := 39) C 11 ⟨by decide, by decide⟩ kw_144 dX13_positionOf_39 (fun r4 => ?_)
    refine T_if_le (pc := 42) C 49 dX13_positionOf_42 rfl r4 (fun c5 => ?_) (fun c5 => ?_)
    · refine T_aload_n (pc := 49) C dX13_positionOf_49 rfl 0 rfl ?_
      refine T_iload_n (pc := 50) C dX13_positionOf_50 rfl 1 rfl ?_
      refine T_iload_n (pc := 51) C dX13_positionOf_51 rfl 2 rfl ?_
      refine T_callVip (pc := 52) C [vi x1, vi x2] [] (fun o h9 hw => ct_X13_placeIn N s3 x1 x2 h1 h2 hw o h9) kw_242 cm_X13_placeIn rcm rfl rfl (Nat.le_of_ble_eq_true rfl) (by decide) (a' := 0) (b' := 0) ⟨rfl, rfl⟩ dX13_positionOf_52 (fun v6 hv6 => ?_)
      exact T_iret (pc := 55) (s3, v6) (fun h9 => h9) hv6.1 (nar_I _) (by decide) dX13_positionOf_55
    · refine T_iconst (pc := 45) C dX13_positionOf_45 ?_
      refine T_goto (pc := 46) C 55 dX13_positionOf_46 rfl ?_
      exact T_iret (pc := 55) (s3, 0) (fun h9 => h9) (rngL rfl) (nar_I _) (by decide) dX13_positionOf_55
  · refine T_aload_n (pc := 9) C dX13_positionOf_9 rfl 0 rfl ?_
    refine T_iload_n (pc := 10) C dX13_positionOf_10 rfl 2 rfl ?_
    refine T_callVip (pc := 11) C [vi x2] [.ref (ad 0)] (fun o h9 hw => ct_X13_isStop σ x2 h2 hw o h9) kw_164 cm_X13_isStop rcm rfl rfl (Nat.le_of_ble_eq_true rfl) (by decide) (a' := 0) (b' := 0) ⟨rfl, rfl⟩ dX13_positionOf_11 (fun v7 hv7 => ?_)
    refine T_if_ne (pc := 14) C 21 dX13_positionOf_14 rfl hv7.1 (fun c8 => ?_) (fun c8 => ?_)
    · refine T_aload_n (pc := 21) C dX13_positionOf_21 rfl 0 rfl ?_
      refine T_iload_n (pc := 22) C dX13_positionOf_22 rfl 1 rfl ?_
      refine T_iload_n (pc := 23) C dX13_positionOf_23 rfl 2 rfl ?_
      refine T_callVip (pc := 24) C [vi x1, vi x2] [.ref (ad 0)] (fun o h9 hw => ct_X13_placeIn N σ x1 x2 h1 h2 hw o h9) kw_242 cm_X13_placeIn rcm rfl rfl (Nat.le_of_ble_eq_true rfl) (by decide) (a' := 0) (b' := 0) ⟨rfl, rfl⟩ dX13_positionOf_24 (fun v9 hv9 => ?_)
      refine T_if_ge (pc := 27) C 34 dX13_positionOf_27 rfl hv9.1 (fun c10 => ?_) (fun c10 => ?_)
      · refine T_iconst (pc := 34) C dX13_positionOf_34 ?_
        refine Tm_put (pc := 35) C (ty := .int) 11 ⟨by decide, by decide⟩ (rngL rfl) kw_144 rfl (nar_I _) (fit_I _) dX13_positionOf_35 ?_
        refine T_blS (fun s11 => ?_)
        refine T_aload_n (pc := 38) C dX13_positionOf_38 rfl 0 rfl ?_
        refine Tm_get (pc := 39) C 11 ⟨by decide, by decide⟩ kw_144 dX13_positionOf_39 (fun r12 => ?_)
        refine T_if_le (pc := 42) C 49 dX13_positionOf_42 rfl r12 (fun c13 => ?_) (fun c13 => ?_)
        · refine T_aload_n (pc := 49) C dX13_positionOf_49 rfl 0 rfl ?_
          refine T_iload_n (pc := 50) C dX13_positionOf_50 rfl 1 rfl ?_
          refine T_iload_n (pc := 51) C dX13_positionOf_51 rfl 2 rfl ?_
          refine T_callVip (pc := 52) C [vi x1, vi x2] [] (fun o h9 hw => ct_X13_placeIn N s11 x1 x2 h1 h2 hw o h9) kw_242 cm_X13_placeIn rcm rfl rfl (Nat.le_of_ble_eq_true rfl) (by decide) (a' := 0) (b' := 0) ⟨rfl, rfl⟩ dX13_positionOf_52 (fun v14 hv14 => ?_)
          exact T_iret (pc := 55) (s11, v14) (fun h9 => h9) hv14.1 (nar_I _) (by decide) dX13_positionOf_55
        · refine T_iconst (pc := 45) C dX13_positionOf_45 ?_
          refine T_goto (pc := 46) C 55 dX13_positionOf_46 rfl ?_
          exact T_iret (pc := 55) (s11, 0) (fun h9 => h9) (rngL rfl) (nar_I _) (by decide) dX13_positionOf_55
      · refine T_iconst (pc := 30) C dX13_positionOf_30 ?_
        refine T_goto (pc := 31) C 35 dX13_positionOf_31 rfl ?_
        refine Tm_put (pc := 35) C (ty := .int) 11 ⟨by decide, by decide⟩ (rngL rfl) kw_144 rfl (nar_I _) (fit_I _) dX13_positionOf_35 ?_
        refine T_blS (fun s15 => ?_)
        refine T_aload_n (pc := 38) C dX13_positionOf_38 rfl 0 rfl ?_
        refine Tm_get (pc := 39) C 11 ⟨by decide, by decide⟩ kw_144 dX13_positionOf_39 (fun r16 => ?_)
        refine T_if_le (pc := 42) C 49 dX13_positionOf_42 rfl r16 (fun c17 => ?_) (fun c17 => ?_)
        · refine T_aload_n (pc := 49) C dX13_positionOf_49 rfl 0 rfl ?_
          refine T_iload_n (pc := 50) C dX13_positionOf_50 rfl 1 rfl ?_
          refine T_iload_n (pc := 51) C dX13_positionOf_51 rfl 2 rfl ?_
          refine T_callVip (pc := 52) C [vi x1, vi x2] [] (fun o h9 hw => ct_X13_placeIn N s15 x1 x2 h1 h2 hw o h9) kw_242 cm_X13_placeIn rcm rfl rfl (Nat.le_of_ble_eq_true rfl) (by decide) (a' := 0) (b' := 0) ⟨rfl, rfl⟩ dX13_positionOf_52 (fun v18 hv18 => ?_)
          exact T_iret (pc := 55) (s15, v18) (fun h9 => h9) hv18.1 (nar_I _) (by decide) dX13_positionOf_55
        · refine T_iconst (pc := 45) C dX13_positionOf_45 ?_
          refine T_goto (pc := 46) C 55 dX13_positionOf_46 rfl ?_
          exact T_iret (pc := 55) (s15, 0) (fun h9 => h9) (rngL rfl) (nar_I _) (by decide) dX13_positionOf_55
    · refine T_iconst (pc := 17) C dX13_positionOf_17 ?_
      refine T_goto (pc := 18) C 35 dX13_positionOf_18 rfl ?_
      refine Tm_put (pc := 35) C (ty := .int) 11 ⟨by decide, by decide⟩ (rngL rfl) kw_144 rfl (nar_I _) (fit_I _) dX13_positionOf_35 ?_
      refine T_blS (fun s19 => ?_)
      refine T_aload_n (pc := 38) C dX13_positionOf_38 rfl 0 rfl ?_
      refine Tm_get (pc := 39) C 11 ⟨by decide, by decide⟩ kw_144 dX13_positionOf_39 (fun r20 => ?_)
      refine T_if_le (pc := 42) C 49 dX13_positionOf_42 rfl r20 (fun c21 => ?_) (fun c21 => ?_)
      · refine T_aload_n (pc := 49) C dX13_positionOf_49 rfl 0 rfl ?_
        refine T_iload_n (pc := 50) C dX13_positionOf_50 rfl 1 rfl ?_
        refine T_iload_n (pc := 51) C dX13_positionOf_51 rfl 2 rfl ?_
        refine T_callVip (pc := 52) C [vi x1, vi x2] [] (fun o h9 hw => ct_X13_placeIn N s19 x1 x2 h1 h2 hw o h9) kw_242 cm_X13_placeIn rcm rfl rfl (Nat.le_of_ble_eq_true rfl) (by decide) (a' := 0) (b' := 0) ⟨rfl, rfl⟩ dX13_positionOf_52 (fun v22 hv22 => ?_)
        exact T_iret (pc := 55) (s19, v22) (fun h9 => h9) hv22.1 (nar_I _) (by decide) dX13_positionOf_55
      · refine T_iconst (pc := 45) C dX13_positionOf_45 ?_
        refine T_goto (pc := 46) C 55 dX13_positionOf_46 rfl ?_
        exact T_iret (pc := 55) (s19, 0) (fun h9 => h9) (rngL rfl) (nar_I _) (by decide) dX13_positionOf_55

abbrev rm_X13_hopMinutes : Room := ⟨2, 0, 0, 43⟩
theorem cm_X13_hopMinutes : cmV yX13_hopMinutes cX13_hopMinutes 2 (some .int) 1 := ⟨kw_72, kw_145, ⟨by decide +kernel, by decide +kernel, by decide +kernel⟩, kw_339, kw_340⟩
def f_X13_hopMinutes (σ : Sm) (x1 : Int) : Option (Sm × Int) :=
  (f_X13_isLine σ x1).bind fun v1 => (f_X13_checked σ v1).bind fun v2 => (if v2.2 ≤ 0 then (f_X13_hop v2.1 x1).bind fun v4 => some (v2.1, v4) else some (v2.1, 0))
theorem ct_X13_hopMinutes {l : Launch} {cy : ClassId} {ad : Nat → Nat} {G : va_G} (σ : Sm) (x1 : Int) (h1 : rng x1) (hw : wfm σ) (o : Sm × Int) (h : f_X13_hopMinutes σ x1 = some o) : CtI l yX13_hopMinutes cX13_hopMinutes 2 (some .int) rm_X13_hopMinutes (wlm cy ad) wfm G (tym cy) [.ref (ad 0), vi x1] σ o.1 o.2 := by
  refine ctI_of (by decide) (Nat.le_of_ble_eq_true rfl) hw o o h (fun X Y w => EndI X Y cX13_hopMinutes rm_X13_hopMinutes .int w) (fun _ _ h => h) (fun X A Q hX C => ?_)
  replace C : Cx X (Ym cy ad G A 2 Q) cX13_hopMinutes RX13 (some .int) rm_X13_hopMinutes (tym cy) := C
  show T X (Ym cy ad G A 2 Q) (fun w => EndI X (Ym cy ad G A 2 Q) cX13_hopMinutes rm_X13_hopMinutes .int w) 0 0 0 [(0, .ref (ad 0)), (1, vi x1)] [] σ (f_X13_hopMinutes σ x1)
  unfold f_X13_hopMinutes
  refine T_aload_n (pc := 0) C dX13_hopMinutes_0 rfl 0 rfl ?_
  refine T_aload_n (pc := 1) C dX13_hopMinutes_1 rfl 0 rfl ?_
  refine T_iload_n (pc := 2) C dX13_hopMinutes_2 rfl 1 rfl ?_
  refine T_callVip (pc := 3) C [vi x1] [.ref (ad 0)] (fun o h9 hw => ct_X13_isLine σ x1 h1 hw o h9) kw_240 cm_X13_isLine rcm rfl rfl (Nat.le_of_ble_eq_true rfl) (by decide) (a' := 0) (b' := 0) ⟨rfl, rfl⟩ dX13_hopMinutes_3 (fun v1 hv1 => ?_)
  refine T_callVi (pc := 6) C [vi v1] [] (fun o h9 hw => ct_X13_checked σ v1 (bit_of_nar hv1) hw o h9) kw_321 cm_X13_checked rcm rfl rfl (Nat.le_of_ble_eq_true rfl) (by decide) (a' := 0) (b' := 0) ⟨rfl, rfl⟩ dX13_hopMinutes_6 (fun v2 hv2 => ?_)
  refine T_if_le (pc := 9) C 16 dX13_hopMinutes_9 rfl hv2.1 (fun c3 => ?_) (fun c3 => ?_)
  · refine T_aload_n (pc := 16) C dX13_hopMinutes_16 rfl 0 rfl ?_
    refine T_iload_n (pc := 17) C dX13_hopMinutes_17 rfl 1 rfl ?_
    refine T_callVip (pc := 18) C [vi x1] [] (fun o h9 hw => ct_X13_hop v2.1 x1 h1 hw o h9) kw_220 cm_X13_hop rcm rfl rfl (Nat.le_of_ble_eq_true rfl) (by decide) (a' := 0) (b' := 0) ⟨rfl, rfl⟩ dX13_hopMinutes_18 (fun v4 hv4 => ?_)
    exact T_iret (pc := 21) (v2.1, v4) (fun h9 => h9) hv4.1 (nar_I _) (by decide) dX13_hopMinutes_21
  · refine T_iconst (pc := 12) C dX13_hopMinutes_12 ?_
    refine T_goto (pc := 13) C 21 dX13_hopMinutes_13 rfl ?_
    exact T_iret (pc := 21) (v2.1, 0) (fun h9 => h9) (rngL rfl) (nar_I _) (by decide) dX13_hopMinutes_21

abbrev rm_X13_runs : Room := ⟨2, 0, 0, 43⟩
theorem cm_X13_runs : cmV yX13_runs cX13_runs 2 (some .boolean) 1 := ⟨kw_73, kw_145, ⟨by decide +kernel, by decide +kernel, by decide +kernel⟩, kw_341, kw_342⟩
def f_X13_runs (σ : Sm) (x1 : Int) : Option (Sm × Int) :=
  (f_X13_isLine σ x1).bind fun v1 => (f_X13_checked σ v1).bind fun v2 => (if v2.2 = 0 then (f_X13_isRunning v2.1 x1).bind fun v4 => (if v4 = 0 then some (v2.1, 0) else some (v2.1, 1)) else some (v2.1, 0))
theorem ct_X13_runs {l : Launch} {cy : ClassId} {ad : Nat → Nat} {G : va_G} (σ : Sm) (x1 : Int) (h1 : rng x1) (hw : wfm σ) (o : Sm × Int) (h : f_X13_runs σ x1 = some o) : CtI l yX13_runs cX13_runs 2 (some .boolean) rm_X13_runs (wlm cy ad) wfm G (tym cy) [.ref (ad 0), vi x1] σ o.1 o.2 := by
  refine ctI_of (by decide) (Nat.le_of_ble_eq_true rfl) hw o o h (fun X Y w => EndI X Y cX13_runs rm_X13_runs .boolean w) (fun _ _ h => h) (fun X A Q hX C => ?_)
  replace C : Cx X (Ym cy ad G A 2 Q) cX13_runs RX13 (some .boolean) rm_X13_runs (tym cy) := C
  show T X (Ym cy ad G A 2 Q) (fun w => EndI X (Ym cy ad G A 2 Q) cX13_runs rm_X13_runs .boolean w) 0 0 0 [(0, .ref (ad 0)), (1, vi x1)] [] σ (f_X13_runs σ x1)
  unfold f_X13_runs
  refine T_aload_n (pc := 0) C dX13_runs_0 rfl 0 rfl ?_
  refine T_aload_n (pc := 1) C dX13_runs_1 rfl 0 rfl ?_
  refine T_iload_n (pc := 2) C dX13_runs_2 rfl 1 rfl ?_
  refine T_callVip (pc := 3) C [vi x1] [.ref (ad 0)] (fun o h9 hw => ct_X13_isLine σ x1 h1 hw o h9) kw_240 cm_X13_isLine rcm rfl rfl (Nat.le_of_ble_eq_true rfl) (by decide) (a' := 0) (b' := 0) ⟨rfl, rfl⟩ dX13_runs_3 (fun v1 hv1 => ?_)
  refine T_callVi (pc := 6) C [vi v1] [] (fun o h9 hw => ct_X13_checked σ v1 (bit_of_nar hv1) hw o h9) kw_321 cm_X13_checked rcm rfl rfl (Nat.le_of_ble_eq_true rfl) (by decide) (a' := 0) (b' := 0) ⟨rfl, rfl⟩ dX13_runs_6 (fun v2 hv2 => ?_)
  refine T_if_ne (pc := 9) C 24 dX13_runs_9 rfl hv2.1 (fun c3 => ?_) (fun c3 => ?_)
  · refine T_iconst (pc := 24) C dX13_runs_24 ?_
    exact T_iret (pc := 25) (v2.1, 0) (fun h9 => h9) (rngL rfl) (nar_Z (Or.inl rfl)) (by decide) dX13_runs_25
  · refine T_aload_n (pc := 12) C dX13_runs_12 rfl 0 rfl ?_
    refine T_iload_n (pc := 13) C dX13_runs_13 rfl 1 rfl ?_
    refine T_callVip (pc := 14) C [vi x1] [] (fun o h9 hw => ct_X13_isRunning v2.1 x1 h1 hw o h9) kw_283 cm_X13_isRunning rcm rfl rfl (Nat.le_of_ble_eq_true rfl) (by decide) (a' := 0) (b' := 0) ⟨rfl, rfl⟩ dX13_runs_14 (fun v4 hv4 => ?_)
    refine T_if_eq (pc := 17) C 24 dX13_runs_17 rfl hv4.1 (fun c5 => ?_) (fun c5 => ?_)
    · refine T_iconst (pc := 24) C dX13_runs_24 ?_
      exact T_iret (pc := 25) (v2.1, 0) (fun h9 => h9) (rngL rfl) (nar_Z (Or.inl rfl)) (by decide) dX13_runs_25
    · refine T_iconst (pc := 20) C dX13_runs_20 ?_
      refine T_goto (pc := 21) C 25 dX13_runs_21 rfl ?_
      exact T_iret (pc := 25) (v2.1, 1) (fun h9 => h9) (rngL rfl) (nar_Z (Or.inr rfl)) (by decide) dX13_runs_25

abbrev rm_X13_tripMinute : Room := ⟨3, 0, 0, 66⟩
theorem cm_X13_tripMinute : cmV yX13_tripMinute cX13_tripMinute 4 (some .int) 3 := ⟨kw_74, kw_145, ⟨by decide +kernel, by decide +kernel, by decide +kernel⟩, kw_343, kw_344⟩
def f_X13_tripMinute (σ : Sm) (x1 : Int) (x2 : Int) (x3 : Int) : Option (Sm × Int) :=
  (f_X13_isLine σ x1).bind fun v1 => (if v1 = 0 then bl (upm σ 11 0 1) fun s26 => (if (s26 11 0) ≤ 0 then (f_X13_minuteOf s26 x1 x2 x3).bind fun v29 => some (s26, v29) else some (s26, 0)) else (f_X13_in x2 0 99).bind fun v3 => (if v3 = 0 then bl (upm σ 11 0 2) fun s5 => (if (s5 11 0) ≤ 0 then (f_X13_minuteOf s5 x1 x2 x3).bind fun v8 => some (s5, v8) else some (s5, 0)) else (f_X13_l σ x1 5).bind fun v9 => (f_X13_in x3 0 v9).bind fun v10 => (if v10 = 0 then bl (upm σ 11 0 2) fun s22 => (if (s22 11 0) ≤ 0 then (f_X13_minuteOf s22 x1 x2 x3).bind fun v25 => some (s22, v25) else some (s22, 0)) else (f_X13_l σ x1 5).bind fun v12 => (if 2 ≤ v12 then bl (upm σ 11 0 0) fun s14 => (if (s14 11 0) ≤ 0 then (f_X13_minuteOf s14 x1 x2 x3).bind fun v17 => some (s14, v17) else some (s14, 0)) else bl (upm σ 11 0 3) fun s18 => (if (s18 11 0) ≤ 0 then (f_X13_minuteOf s18 x1 x2 x3).bind fun v21 => some (s18, v21) else some (s18, 0))))))
theorem ct_X13_tripMinute {l : Launch} {cy : ClassId} {ad : Nat → Nat} {G : va_G} (σ : Sm) (x1 : Int) (x2 : Int) (x3 : Int) (h1 : rng x1) (h2 : rng x2) (h3 : rng x3) (hw : wfm σ) (o : Sm × Int) (h : f_X13_tripMinute σ x1 x2 x3 = some o) : CtI l yX13_tripMinute cX13_tripMinute 4 (some .int) rm_X13_tripMinute (wlm cy ad) wfm G (tym cy) [.ref (ad 0), vi x1, vi x2, vi x3] σ o.1 o.2 := by
  refine ctI_of (by decide) (Nat.le_of_ble_eq_true rfl) hw o o h (fun X Y w => EndI X Y cX13_tripMinute rm_X13_tripMinute .int w) (fun _ _ h => h) (fun X A Q hX C => ?_)
  replace C : Cx X (Ym cy ad G A 4 Q) cX13_tripMinute RX13 (some .int) rm_X13_tripMinute (tym cy) := C
  show T X (Ym cy ad G A 4 Q) (fun w => EndI X (Ym cy ad G A 4 Q) cX13_tripMinute rm_X13_tripMinute .int w) 0 0 0 [(0, .ref (ad 0)), (1, vi x1), (2, vi x2), (3, vi x3)] [] σ (f_X13_tripMinute σ x1 x2 x3)
  unfold f_X13_tripMinute
  refine T_aload_n (pc := 0) C dX13_tripMinute_0 rfl 0 rfl ?_
  refine T_aload_n (pc := 1) C dX13_tripMinute_1 rfl 0 rfl ?_
  refine T_iload_n (pc := 2) C dX13_tripMinute_2 rfl 1 rfl ?_
  refine T_callVip (pc := 3) C [vi x1] [.ref (ad 0)] (fun o h9 hw => ct_X13_isLine σ x1 h1 hw o h9) kw_240 cm_X13_isLine rcm rfl rfl (Nat.le_of_ble_eq_true rfl) (by decide) (a' := 0) (b' := 0) ⟨rfl, rfl⟩ dX13_tripMinute_3 (fun v1 hv1 => ?_)
  refine T_if_ne (pc := 6) C 13 dX13_tripMinute_6 rfl hv1.1 (fun c2 => ?_) (fun c2 => ?_)
  · refine T_iload_n (pc := 13) C dX13_tripMinute_13 rfl 2 rfl ?_
    refine T_iconst (pc := 14) C dX13_tripMinute_14 ?_
    refine T_bipush (pc := 15) C dX13_tripMinute_15 (by decide) ?_
    refine T_callSip (pc := 17) C [vi x2, vi 0, vi 99] [.ref (ad 0)] (fun o h9 hw => ct_X13_in σ x2 0 99 h2 (rngL rfl) (rngL rfl) hw o h9) kw_161 cm_X13_in rfl rfl (Nat.le_of_ble_eq_true rfl) (by decide) (a' := 0) (b' := 0) ⟨rfl, rfl⟩ dX13_tripMinute_17 (fun v3 hv3 => ?_)
    refine T_if_eq (pc := 20) C 37 dX13_tripMinute_20 rfl hv3.1 (fun c4 => ?_) (fun c4 => ?_)
    · refine T_iconst (pc := 37) C dX13_tripMinute_37 ?_
      refine T_goto (pc := 38) C 56 dX13_tripMinute_38 rfl ?_
      refine Tm_put (pc := 56) C (ty := .int) 11 ⟨by decide, by decide⟩ (rngL rfl) kw_144 rfl (nar_I _) (fit_I _) dX13_tripMinute_56 ?_
      refine T_blS (fun s5 => ?_)
      refine T_aload_n (pc := 59) C dX13_tripMinute_59 rfl 0 rfl ?_
      refine Tm_get (pc := 60) C 11 ⟨by decide, by decide⟩ kw_144 dX13_tripMinute_60 (fun r6 => ?_)
      refine T_if_le (pc := 63) C 70 dX13_tripMinute_63 rfl r6 (fun c7 => ?_) (fun c7 => ?_)
      · refine T_aload_n (pc := 70) C dX13_tripMinute_70 rfl 0 rfl ?_
        refine T_iload_n (pc := 71) C dX13_tripMinute_71 rfl 1 rfl ?_
        refine T_iload_n (pc := 72) C dX13_tripMinute_72 rfl 2 rfl ?_
        refine T_iload_n (pc := 73) C dX13_tripMinute_73 rfl 3 rfl ?_
        refine T_callVip (pc := 74) C [vi x1, vi x2, vi x3] [] (fun o h9 hw => ct_X13_minuteOf s5 x1 x2 x3 h1 h2 h3 hw o h9) kw_223 cm_X13_minuteOf rcm rfl rfl (Nat.le_of_ble_eq_true rfl) (by decide) (a' := 0) (b' := 0) ⟨rfl, rfl⟩ dX13_tripMinute_74 (fun v8 hv8 => ?_)
        exact T_iret (pc := 77) (s5, v8) (fun h9 => h9) hv8.1 (nar_I _) (by decide) dX13_tripMinute_77
      · refine T_iconst (pc := 66) C dX13_tripMinute_66 ?_
        refine T_goto (pc := 67) C 77 dX13_tripMinute_67 rfl ?_
        exact T_iret (pc := 77) (s5, 0) (fun h9 => h9) (rngL rfl) (nar_I _) (by decide) dX13_tripMinute_77
    · refine T_iload_n (pc := 23) C dX13_tripMinute_23 rfl 3 rfl ?_
      refine T_iconst (pc := 24) C dX13_tripMinute_24 ?_
      refine T_aload_n (pc := 25) C dX13_tripMinute_25 rfl 0 rfl ?_
      refine T_iload_n (pc := 26) C dX13_tripMinute_26 rfl 1 rfl ?_
      refine T_iconst (pc := 27) C dX13_tripMinute_27 ?_
      refine T_callVip (pc := 28) C [vi x1, vi 5] [vi 0, vi x3, .ref (ad 0)] (fun o h9 hw => ct_X13_l σ x1 5 h1 (rngL rfl) hw o h9) kw_211 cm_X13_l rcm rfl rfl (Nat.le_of_ble_eq_true rfl) (by decide) (a' := 0) (b' := 0) ⟨rfl, rfl⟩ dX13_tripMinute_28 (fun v9 hv9 => ?_)
      refine T_callSip (pc := 31) C [vi x3, vi 0, vi v9] [.ref (ad 0)] (fun o h9 hw => ct_X13_in σ x3 0 v9 h3 (rngL rfl) hv9.1 hw o h9) kw_161 cm_X13_in rfl rfl (Nat.le_of_ble_eq_true rfl) (by decide) (a' := 0) (b' := 0) ⟨rfl, rfl⟩ dX13_tripMinute_31 (fun v10 hv10 => ?_)
      refine T_if_ne (pc := 34) C 41 dX13_tripMinute_34 rfl hv10.1 (fun c11 => ?_) (fun c11 => ?_)
      · refine T_aload_n (pc := 41) C dX13_tripMinute_41 rfl 0 rfl ?_
        refine T_iload_n (pc := 42) C dX13_tripMinute_42 rfl 1 rfl ?_
        refine T_iconst (pc := 43) C dX13_tripMinute_43 ?_
        refine T_callVip (pc := 44) C [vi x1, vi 5] [.ref (ad 0)] (fun o h9 hw => ct_X13_l σ x1 5 h1 (rngL rfl) hw o h9) kw_211 cm_X13_l rcm rfl rfl (Nat.le_of_ble_eq_true rfl) (by decide) (a' := 0) (b' := 0) ⟨rfl, rfl⟩ dX13_tripMinute_44 (fun v12 hv12 => ?_)
        refine T_iconst (pc := 47) C dX13_tripMinute_47 ?_
        refine T_icmp_ge (pc := 48) C 55 dX13_tripMinute_48 rfl hv12.1 (rngL rfl) (fun c13 => ?_) (fun c13 => ?_)
        · refine T_iconst (pc := 55) C dX13_tripMinute_55 ?_
          refine Tm_put (pc := 56) C (ty := .int) 11 ⟨by decide, by decide⟩ (rngL rfl) kw_144 rfl (nar_I _) (fit_I _) dX13_tripMinute_56 ?_
          refine T_blS (fun s14 => ?_)
          refine T_aload_n (pc := 59) C dX13_tripMinute_59 rfl 0 rfl ?_
          refine Tm_get (pc := 60) C 11 ⟨by decide, by decide⟩ kw_144 dX13_tripMinute_60 (fun r15 => ?_)
          refine T_if_le (pc := 63) C 70 dX13_tripMinute_63 rfl r15 (fun c16 => ?_) (fun c16 => ?_)
          · refine T_aload_n (pc := 70) C dX13_tripMinute_70 rfl 0 rfl ?_
            refine T_iload_n (pc := 71) C dX13_tripMinute_71 rfl 1 rfl ?_
            refine T_iload_n (pc := 72) C dX13_tripMinute_72 rfl 2 rfl ?_
            refine T_iload_n (pc := 73) C dX13_tripMinute_73 rfl 3 rfl ?_
            refine T_callVip (pc := 74) C [vi x1, vi x2, vi x3] [] (fun o h9 hw => ct_X13_minuteOf s14 x1 x2 x3 h1 h2 h3 hw o h9) kw_223 cm_X13_minuteOf rcm rfl rfl (Nat.le_of_ble_eq_true rfl) (by decide) (a' := 0) (b' := 0) ⟨rfl, rfl⟩ dX13_tripMinute_74 (fun v17 hv17 => ?_)
            exact T_iret (pc := 77) (s14, v17) (fun h9 => h9) hv17.1 (nar_I _) (by decide) dX13_tripMinute_77
          · refine T_iconst (pc := 66) C dX13_tripMinute_66 ?_
            refine T_goto (pc := 67) C 77 dX13_tripMinute_67 rfl ?_
            exact T_iret (pc := 77) (s14, 0) (fun h9 => h9) (rngL rfl) (nar_I _) (by decide) dX13_tripMinute_77
        · refine T_iconst (pc := 51) C dX13_tripMinute_51 ?_
          refine T_goto (pc := 52) C 56 dX13_tripMinute_52 rfl ?_
          refine Tm_put (pc := 56) C (ty := .int) 11 ⟨by decide, by decide⟩ (rngL rfl) kw_144 rfl (nar_I _) (fit_I _) dX13_tripMinute_56 ?_
          refine T_blS (fun s18 => ?_)
          refine T_aload_n (pc := 59) C dX13_tripMinute_59 rfl 0 rfl ?_
          refine Tm_get (pc := 60) C 11 ⟨by decide, by decide⟩ kw_144 dX13_tripMinute_60 (fun r19 => ?_)
          refine T_if_le (pc := 63) C 70 dX13_tripMinute_63 rfl r19 (fun c20 => ?_) (fun c20 => ?_)
          · refine T_aload_n (pc := 70) C dX13_tripMinute_70 rfl 0 rfl ?_
            refine T_iload_n (pc := 71) C dX13_tripMinute_71 rfl 1 rfl ?_
            refine T_iload_n (pc := 72) C dX13_tripMinute_72 rfl 2 rfl ?_
            refine T_iload_n (pc := 73) C dX13_tripMinute_73 rfl 3 rfl ?_
            refine T_callVip (pc := 74) C [vi x1, vi x2, vi x3] [] (fun o h9 hw => ct_X13_minuteOf s18 x1 x2 x3 h1 h2 h3 hw o h9) kw_223 cm_X13_minuteOf rcm rfl rfl (Nat.le_of_ble_eq_true rfl) (by decide) (a' := 0) (b' := 0) ⟨rfl, rfl⟩ dX13_tripMinute_74 (fun v21 hv21 => ?_)
            exact T_iret (pc := 77) (s18, v21) (fun h9 => h9) hv21.1 (nar_I _) (by decide) dX13_tripMinute_77
          · refine T_iconst (pc := 66) C dX13_tripMinute_66 ?_
            refine T_goto (pc := 67) C 77 dX13_tripMinute_67 rfl ?_
            exact T_iret (pc := 77) (s18, 0) (fun h9 => h9) (rngL rfl) (nar_I _) (by decide) dX13_tripMinute_77
      · refine T_iconst (pc := 37) C dX13_tripMinute_37 ?_
        refine T_goto (pc := 38) C 56 dX13_tripMinute_38 rfl ?_
        refine Tm_put (pc := 56) C (ty := .int) 11 ⟨by decide, by decide⟩ (rngL rfl) kw_144 rfl (nar_I _) (fit_I _) dX13_tripMinute_56 ?_
        refine T_blS (fun s22 => ?_)
        refine T_aload_n (pc := 59) C dX13_tripMinute_59 rfl 0 rfl ?_
        refine Tm_get (pc := 60) C 11 ⟨by decide, by decide⟩ kw_144 dX13_tripMinute_60 (fun r23 => ?_)
        refine T_if_le (pc := 63) C 70 dX13_tripMinute_63 rfl r23 (fun c24 => ?_) (fun c24 => ?_)
        · refine T_aload_n (pc := 70) C dX13_tripMinute_70 rfl 0 rfl ?_
          refine T_iload_n (pc := 71) C dX13_tripMinute_71 rfl 1 rfl ?_
          refine T_iload_n (pc := 72) C dX13_tripMinute_72 rfl 2 rfl ?_
          refine T_iload_n (pc := 73) C dX13_tripMinute_73 rfl 3 rfl ?_
          refine T_callVip (pc := 74) C [vi x1, vi x2, vi x3] [] (fun o h9 hw => ct_X13_minuteOf s22 x1 x2 x3 h1 h2 h3 hw o h9) kw_223 cm_X13_minuteOf rcm rfl rfl (Nat.le_of_ble_eq_true rfl) (by decide) (a' := 0) (b' := 0) ⟨rfl, rfl⟩ dX13_tripMinute_74 (fun v25 hv25 => ?_)
          exact T_iret (pc := 77) (s22, v25) (fun h9 => h9) hv25.1 (nar_I _) (by decide) dX13_tripMinute_77
        · refine T_iconst (pc := 66) C dX13_tripMinute_66 ?_
          refine T_goto (pc := 67) C 77 dX13_tripMinute_67 rfl ?_
          exact T_iret (pc := 77) (s22, 0) (fun h9 => h9) (rngL rfl) (nar_I _) (by decide) dX13_tripMinute_77
  · refine T_iconst (pc := 9) C dX13_tripMinute_9 ?_
    refine T_goto (pc := 10) C 56 dX13_tripMinute_10 rfl ?_
    refine Tm_put (pc := 56) C (ty := .int) 11 ⟨by decide, by decide⟩ (rngL rfl) kw_144 rfl (nar_I _) (fit_I _) dX13_tripMinute_56 ?_
    refine T_blS (fun s26 => ?_)
    refine T_aload_n (pc := 59) C dX13_tripMinute_59 rfl 0 rfl ?_
    refine Tm_get (pc := 60) C 11 ⟨by decide, by decide⟩ kw_144 dX13_tripMinute_60 (fun r27 => ?_)
    refine T_if_le (pc := 63) C 70 dX13_tripMinute_63 rfl r27 (fun c28 => ?_) (fun c28 => ?_)
    · refine T_aload_n (pc := 70) C dX13_tripMinute_70 rfl 0 rfl ?_
      refine T_iload_n (pc := 71) C dX13_tripMinute_71 rfl 1 rfl ?_
      refine T_iload_n (pc := 72) C dX13_tripMinute_72 rfl 2 rfl ?_
      refine T_iload_n (pc := 73) C dX13_tripMinute_73 rfl 3 rfl ?_
      refine T_callVip (pc := 74) C [vi x1, vi x2, vi x3] [] (fun o h9 hw => ct_X13_minuteOf s26 x1 x2 x3 h1 h2 h3 hw o h9) kw_223 cm_X13_minuteOf rcm rfl rfl (Nat.le_of_ble_eq_true rfl) (by decide) (a' := 0) (b' := 0) ⟨rfl, rfl⟩ dX13_tripMinute_74 (fun v29 hv29 => ?_)
      exact T_iret (pc := 77) (s26, v29) (fun h9 => h9) hv29.1 (nar_I _) (by decide) dX13_tripMinute_77
    · refine T_iconst (pc := 66) C dX13_tripMinute_66 ?_
      refine T_goto (pc := 67) C 77 dX13_tripMinute_67 rfl ?_
      exact T_iret (pc := 77) (s26, 0) (fun h9 => h9) (rngL rfl) (nar_I _) (by decide) dX13_tripMinute_77

abbrev rm_X13_next : Room := ⟨4, 0, 0, 90⟩
theorem cm_X13_next : cmV yX13_next cX13_next 4 (some .int) 3 := ⟨kw_75, kw_145, ⟨by decide +kernel, by decide +kernel, by decide +kernel⟩, kw_346, kw_347⟩
def f_X13_next (σ : Sm) (x1 : Int) (x2 : Int) (x3 : Int) : Option (Sm × Int) :=
  (f_X13_isLine σ x1).bind fun v1 => (if v1 = 0 then bl (upm σ 11 0 1) fun s27 => (if (s27 11 0) ≤ 0 then (f_X13_first s27 x1 x2 x3).bind fun v30 => some (s27, v30) else some (s27, 0)) else (f_X13_l σ x1 5).bind fun v3 => if rng (v3 - 1) then (f_X13_in x2 0 (v3 - 1)).bind fun v5 => (if v5 = 0 then bl (upm σ 11 0 2) fun s7 => (if (s7 11 0) ≤ 0 then (f_X13_first s7 x1 x2 x3).bind fun v10 => some (s7, v10) else some (s7, 0)) else (f_X13_in x3 0 9999).bind fun v11 => (if v11 = 0 then bl (upm σ 11 0 2) fun s23 => (if (s23 11 0) ≤ 0 then (f_X13_first s23 x1 x2 x3).bind fun v26 => some (s23, v26) else some (s23, 0)) else (f_X13_isRunning σ x1).bind fun v13 => (if v13 = 0 then bl (upm σ 11 0 3) fun s19 => (if (s19 11 0) ≤ 0 then (f_X13_first s19 x1 x2 x3).bind fun v22 => some (s19, v22) else some (s19, 0)) else bl (upm σ 11 0 0) fun s15 => (if (s15 11 0) ≤ 0 then (f_X13_first s15 x1 x2 x3).bind fun v18 => some (s15, v18) else some (s15, 0))))) else none)
theorem ct_X13_next {l : Launch} {cy : ClassId} {ad : Nat → Nat} {G : va_G} (σ : Sm) (x1 : Int) (x2 : Int) (x3 : Int) (h1 : rng x1) (h2 : rng x2) (h3 : rng x3) (hw : wfm σ) (o : Sm × Int) (h : f_X13_next σ x1 x2 x3 = some o) : CtI l yX13_next cX13_next 4 (some .int) rm_X13_next (wlm cy ad) wfm G (tym cy) [.ref (ad 0), vi x1, vi x2, vi x3] σ o.1 o.2 := by
  refine ctI_of (by decide) (Nat.le_of_ble_eq_true rfl) hw o o h (fun X Y w => EndI X Y cX13_next rm_X13_next .int w) (fun _ _ h => h) (fun X A Q hX C => ?_)
  replace C : Cx X (Ym cy ad G A 4 Q) cX13_next RX13 (some .int) rm_X13_next (tym cy) := C
  show T X (Ym cy ad G A 4 Q) (fun w => EndI X (Ym cy ad G A 4 Q) cX13_next rm_X13_next .int w) 0 0 0 [(0, .ref (ad 0)), (1, vi x1), (2, vi x2), (3, vi x3)] [] σ (f_X13_next σ x1 x2 x3)
  unfold f_X13_next
  refine T_aload_n (pc := 0) C dX13_next_0 rfl 0 rfl ?_
  refine T_aload_n (pc := 1) C dX13_next_1 rfl 0 rfl ?_
  refine T_iload_n (pc := 2) C dX13_next_2 rfl 1 rfl ?_
  refine T_callVip (pc := 3) C [vi x1] [.ref (ad 0)] (fun o h9 hw => ct_X13_isLine σ x1 h1 hw o h9) kw_240 cm_X13_isLine rcm rfl rfl (Nat.le_of_ble_eq_true rfl) (by decide) (a' := 0) (b' := 0) ⟨rfl, rfl⟩ dX13_next_3 (fun v1 hv1 => ?_)
  refine T_if_ne (pc := 6) C 13 dX13_next_6 rfl hv1.1 (fun c2 => ?_) (fun c2 => ?_)
  · refine T_iload_n (pc := 13) C dX13_next_13 rfl 2 rfl ?_
    refine T_iconst (pc := 14) C dX13_next_14 ?_
    refine T_aload_n (pc := 15) C dX13_next_15 rfl 0 rfl ?_
    refine T_iload_n (pc := 16) C dX13_next_16 rfl 1 rfl ?_
    refine T_iconst (pc := 17) C dX13_next_17 ?_
    refine T_callVip (pc := 18) C [vi x1, vi 5] [vi 0, vi x2, .ref (ad 0)] (fun o h9 hw => ct_X13_l σ x1 5 h1 (rngL rfl) hw o h9) kw_211 cm_X13_l rcm rfl rfl (Nat.le_of_ble_eq_true rfl) (by decide) (a' := 0) (b' := 0) ⟨rfl, rfl⟩ dX13_next_18 (fun v3 hv3 => ?_)
    refine T_iconst (pc := 21) C dX13_next_21 ?_
    refine T_isub (pc := 22) C dX13_next_22 ?_
    refine T_guard (fun g4 => ?_)
    refine T_callSip (pc := 23) C [vi x2, vi 0, vi (v3 - 1)] [.ref (ad 0)] (fun o h9 hw => ct_X13_in σ x2 0 (v3 - 1) h2 (rngL rfl) g4 hw o h9) kw_161 cm_X13_in rfl rfl (Nat.le_of_ble_eq_true rfl) (by decide) (a' := 0) (b' := 0) ⟨rfl, rfl⟩ dX13_next_23 (fun v5 hv5 => ?_)
    refine T_if_eq (pc := 26) C 40 dX13_next_26 rfl hv5.1 (fun c6 => ?_) (fun c6 => ?_)
    · refine T_iconst (pc := 40) C dX13_next_40 ?_
      refine T_goto (pc := 41) C 57 dX13_next_41 rfl ?_
      refine Tm_put (pc := 57) C (ty := .int) 11 ⟨by decide, by decide⟩ (rngL rfl) kw_144 rfl (nar_I _) (fit_I _) dX13_next_57 ?_
      refine T_blS (fun s7 => ?_)
      refine T_aload_n (pc := 60) C dX13_next_60 rfl 0 rfl ?_
      refine Tm_get (pc := 61) C 11 ⟨by decide, by decide⟩ kw_144 dX13_next_61 (fun r8 => ?_)
      refine T_if_le (pc := 64) C 71 dX13_next_64 rfl r8 (fun c9 => ?_) (fun c9 => ?_)
      · refine T_aload_n (pc := 71) C dX13_next_71 rfl 0 rfl ?_
        refine T_iload_n (pc := 72) C dX13_next_72 rfl 1 rfl ?_
        refine T_iload_n (pc := 73) C dX13_next_73 rfl 2 rfl ?_
        refine T_iload_n (pc := 74) C dX13_next_74 rfl 3 rfl ?_
        refine T_callVip (pc := 75) C [vi x1, vi x2, vi x3] [] (fun o h9 hw => ct_X13_first s7 x1 x2 x3 h1 h2 h3 hw o h9) kw_345 cm_X13_first rcm rfl rfl (Nat.le_of_ble_eq_true rfl) (by decide) (a' := 0) (b' := 0) ⟨rfl, rfl⟩ dX13_next_75 (fun v10 hv10 => ?_)
        exact T_iret (pc := 78) (s7, v10) (fun h9 => h9) hv10.1 (nar_I _) (by decide) dX13_next_78
      · refine T_iconst (pc := 67) C dX13_next_67 ?_
        refine T_goto (pc := 68) C 78 dX13_next_68 rfl ?_
        exact T_iret (pc := 78) (s7, 0) (fun h9 => h9) (rngL rfl) (nar_I _) (by decide) dX13_next_78
    · refine T_iload_n (pc := 29) C dX13_next_29 rfl 3 rfl ?_
      refine T_iconst (pc := 30) C dX13_next_30 ?_
      refine T_sipush (pc := 31) C dX13_next_31 (by decide) ?_
      refine T_callSip (pc := 34) C [vi x3, vi 0, vi 9999] [.ref (ad 0)] (fun o h9 hw => ct_X13_in σ x3 0 9999 h3 (rngL rfl) (rngL rfl) hw o h9) kw_161 cm_X13_in rfl rfl (Nat.le_of_ble_eq_true rfl) (by decide) (a' := 0) (b' := 0) ⟨rfl, rfl⟩ dX13_next_34 (fun v11 hv11 => ?_)
      refine T_if_ne (pc := 37) C 44 dX13_next_37 rfl hv11.1 (fun c12 => ?_) (fun c12 => ?_)
      · refine T_aload_n (pc := 44) C dX13_next_44 rfl 0 rfl ?_
        refine T_iload_n (pc := 45) C dX13_next_45 rfl 1 rfl ?_
        refine T_callVip (pc := 46) C [vi x1] [.ref (ad 0)] (fun o h9 hw => ct_X13_isRunning σ x1 h1 hw o h9) kw_283 cm_X13_isRunning rcm rfl rfl (Nat.le_of_ble_eq_true rfl) (by decide) (a' := 0) (b' := 0) ⟨rfl, rfl⟩ dX13_next_46 (fun v13 hv13 => ?_)
        refine T_if_ne (pc := 49) C 56 dX13_next_49 rfl hv13.1 (fun c14 => ?_) (fun c14 => ?_)
        · refine T_iconst (pc := 56) C dX13_next_56 ?_
          refine Tm_put (pc := 57) C (ty := .int) 11 ⟨by decide, by decide⟩ (rngL rfl) kw_144 rfl (nar_I _) (fit_I _) dX13_next_57 ?_
          refine T_blS (fun s15 => ?_)
          refine T_aload_n (pc := 60) C dX13_next_60 rfl 0 rfl ?_
          refine Tm_get (pc := 61) C 11 ⟨by decide, by decide⟩ kw_144 dX13_next_61 (fun r16 => ?_)
          refine T_if_le (pc := 64) C 71 dX13_next_64 rfl r16 (fun c17 => ?_) (fun c17 => ?_)
          · refine T_aload_n (pc := 71) C dX13_next_71 rfl 0 rfl ?_
            refine T_iload_n (pc := 72) C dX13_next_72 rfl 1 rfl ?_
            refine T_iload_n (pc := 73) C dX13_next_73 rfl 2 rfl ?_
            refine T_iload_n (pc := 74) C dX13_next_74 rfl 3 rfl ?_
            refine T_callVip (pc := 75) C [vi x1, vi x2, vi x3] [] (fun o h9 hw => ct_X13_first s15 x1 x2 x3 h1 h2 h3 hw o h9) kw_345 cm_X13_first rcm rfl rfl (Nat.le_of_ble_eq_true rfl) (by decide) (a' := 0) (b' := 0) ⟨rfl, rfl⟩ dX13_next_75 (fun v18 hv18 => ?_)
            exact T_iret (pc := 78) (s15, v18) (fun h9 => h9) hv18.1 (nar_I _) (by decide) dX13_next_78
          · refine T_iconst (pc := 67) C dX13_next_67 ?_
            refine T_goto (pc := 68) C 78 dX13_next_68 rfl ?_
            exact T_iret (pc := 78) (s15, 0) (fun h9 => h9) (rngL rfl) (nar_I _) (by decide) dX13_next_78
        · refine T_iconst (pc := 52) C dX13_next_52 ?_
          refine T_goto (pc := 53) C 57 dX13_next_53 rfl ?_
          refine Tm_put (pc := 57) C (ty := .int) 11 ⟨by decide, by decide⟩ (rngL rfl) kw_144 rfl (nar_I _) (fit_I _) dX13_next_57 ?_
          refine T_blS (fun s19 => ?_)
          refine T_aload_n (pc := 60) C dX13_next_60 rfl 0 rfl ?_
          refine Tm_get (pc := 61) C 11 ⟨by decide, by decide⟩ kw_144 dX13_next_61 (fun r20 => ?_)
          refine T_if_le (pc := 64) C 71 dX13_next_64 rfl r20 (fun c21 => ?_) (fun c21 => ?_)
          · refine T_aload_n (pc := 71) C dX13_next_71 rfl 0 rfl ?_
            refine T_iload_n (pc := 72) C dX13_next_72 rfl 1 rfl ?_
            refine T_iload_n (pc := 73) C dX13_next_73 rfl 2 rfl ?_
            refine T_iload_n (pc := 74) C dX13_next_74 rfl 3 rfl ?_
            refine T_callVip (pc := 75) C [vi x1, vi x2, vi x3] [] (fun o h9 hw => ct_X13_first s19 x1 x2 x3 h1 h2 h3 hw o h9) kw_345 cm_X13_first rcm rfl rfl (Nat.le_of_ble_eq_true rfl) (by decide) (a' := 0) (b' := 0) ⟨rfl, rfl⟩ dX13_next_75 (fun v22 hv22 => ?_)
            exact T_iret (pc := 78) (s19, v22) (fun h9 => h9) hv22.1 (nar_I _) (by decide) dX13_next_78
          · refine T_iconst (pc := 67) C dX13_next_67 ?_
            refine T_goto (pc := 68) C 78 dX13_next_68 rfl ?_
            exact T_iret (pc := 78) (s19, 0) (fun h9 => h9) (rngL rfl) (nar_I _) (by decide) dX13_next_78
      · refine T_iconst (pc := 40) C dX13_next_40 ?_
        refine T_goto (pc := 41) C 57 dX13_next_41 rfl ?_
        refine Tm_put (pc := 57) C (ty := .int) 11 ⟨by decide, by decide⟩ (rngL rfl) kw_144 rfl (nar_I _) (fit_I _) dX13_next_57 ?_
        refine T_blS (fun s23 => ?_)
        refine T_aload_n (pc := 60) C dX13_next_60 rfl 0 rfl ?_
        refine Tm_get (pc := 61) C 11 ⟨by decide, by decide⟩ kw_144 dX13_next_61 (fun r24 => ?_)
        refine T_if_le (pc := 64) C 71 dX13_next_64 rfl r24 (fun c25 => ?_) (fun c25 => ?_)
        · refine T_aload_n (pc := 71) C dX13_next_71 rfl 0 rfl ?_
          refine T_iload_n (pc := 72) C dX13_next_72 rfl 1 rfl ?_
          refine T_iload_n (pc := 73) C dX13_next_73 rfl 2 rfl ?_
          refine T_iload_n (pc := 74) C dX13_next_74 rfl 3 rfl ?_
          refine T_callVip (pc := 75) C [vi x1, vi x2, vi x3] [] (fun o h9 hw => ct_X13_first s23 x1 x2 x3 h1 h2 h3 hw o h9) kw_345 cm_X13_first rcm rfl rfl (Nat.le_of_ble_eq_true rfl) (by decide) (a' := 0) (b' := 0) ⟨rfl, rfl⟩ dX13_next_75 (fun v26 hv26 => ?_)
          exact T_iret (pc := 78) (s23, v26) (fun h9 => h9) hv26.1 (nar_I _) (by decide) dX13_next_78
        · refine T_iconst (pc := 67) C dX13_next_67 ?_
          refine T_goto (pc := 68) C 78 dX13_next_68 rfl ?_
          exact T_iret (pc := 78) (s23, 0) (fun h9 => h9) (rngL rfl) (nar_I _) (by decide) dX13_next_78
  · refine T_iconst (pc := 9) C dX13_next_9 ?_
    refine T_goto (pc := 10) C 57 dX13_next_10 rfl ?_
    refine Tm_put (pc := 57) C (ty := .int) 11 ⟨by decide, by decide⟩ (rngL rfl) kw_144 rfl (nar_I _) (fit_I _) dX13_next_57 ?_
    refine T_blS (fun s27 => ?_)
    refine T_aload_n (pc := 60) C dX13_next_60 rfl 0 rfl ?_
    refine Tm_get (pc := 61) C 11 ⟨by decide, by decide⟩ kw_144 dX13_next_61 (fun r28 => ?_)
    refine T_if_le (pc := 64) C 71 dX13_next_64 rfl r28 (fun c29 => ?_) (fun c29 => ?_)
    · refine T_aload_n (pc := 71) C dX13_next_71 rfl 0 rfl ?_
      refine T_iload_n (pc := 72) C dX13_next_72 rfl 1 rfl ?_
      refine T_iload_n (pc := 73) C dX13_next_73 rfl 2 rfl ?_
      refine T_iload_n (pc := 74) C dX13_next_74 rfl 3 rfl ?_
      refine T_callVip (pc := 75) C [vi x1, vi x2, vi x3] [] (fun o h9 hw => ct_X13_first s27 x1 x2 x3 h1 h2 h3 hw o h9) kw_345 cm_X13_first rcm rfl rfl (Nat.le_of_ble_eq_true rfl) (by decide) (a' := 0) (b' := 0) ⟨rfl, rfl⟩ dX13_next_75 (fun v30 hv30 => ?_)
      exact T_iret (pc := 78) (s27, v30) (fun h9 => h9) hv30.1 (nar_I _) (by decide) dX13_next_78
    · refine T_iconst (pc := 67) C dX13_next_67 ?_
      refine T_goto (pc := 68) C 78 dX13_next_68 rfl ?_
      exact T_iret (pc := 78) (s27, 0) (fun h9 => h9) (rngL rfl) (nar_I _) (by decide) dX13_next_78

abbrev rm_X13_nextTrip : Room := ⟨5, 0, 0, 113⟩
theorem cm_X13_nextTrip : cmV yX13_nextTrip cX13_nextTrip 4 (some .int) 3 := ⟨kw_76, kw_145, ⟨by decide +kernel, by decide +kernel, by decide +kernel⟩, kw_349, kw_350⟩
def f_X13_nextTrip (σ : Sm) (x1 : Int) (x2 : Int) (x3 : Int) : Option (Sm × Int) :=
  (f_X13_next σ x1 x2 x3).bind fun v1 => some (v1.1, v1.2)
theorem ct_X13_nextTrip {l : Launch} {cy : ClassId} {ad : Nat → Nat} {G : va_G} (σ : Sm) (x1 : Int) (x2 : Int) (x3 : Int) (h1 : rng x1) (h2 : rng x2) (h3 : rng x3) (hw : wfm σ) (o : Sm × Int) (h : f_X13_nextTrip σ x1 x2 x3 = some o) : CtI l yX13_nextTrip cX13_nextTrip 4 (some .int) rm_X13_nextTrip (wlm cy ad) wfm G (tym cy) [.ref (ad 0), vi x1, vi x2, vi x3] σ o.1 o.2 := by
  refine ctI_of (by decide) (Nat.le_of_ble_eq_true rfl) hw o o h (fun X Y w => EndI X Y cX13_nextTrip rm_X13_nextTrip .int w) (fun _ _ h => h) (fun X A Q hX C => ?_)
  replace C : Cx X (Ym cy ad G A 4 Q) cX13_nextTrip RX13 (some .int) rm_X13_nextTrip (tym cy) := C
  show T X (Ym cy ad G A 4 Q) (fun w => EndI X (Ym cy ad G A 4 Q) cX13_nextTrip rm_X13_nextTrip .int w) 0 0 0 [(0, .ref (ad 0)), (1, vi x1), (2, vi x2), (3, vi x3)] [] σ (f_X13_nextTrip σ x1 x2 x3)
  unfold f_X13_nextTrip
  refine T_aload_n (pc := 0) C dX13_nextTrip_0 rfl 0 rfl ?_
  refine T_iload_n (pc := 1) C dX13_nextTrip_1 rfl 1 rfl ?_
  refine T_iload_n (pc := 2) C dX13_nextTrip_2 rfl 2 rfl ?_
  refine T_iload_n (pc := 3) C dX13_nextTrip_3 rfl 3 rfl ?_
  refine T_callVi (pc := 4) C [vi x1, vi x2, vi x3] [] (fun o h9 hw => ct_X13_next σ x1 x2 x3 h1 h2 h3 hw o h9) kw_348 cm_X13_next rcm rfl rfl (Nat.le_of_ble_eq_true rfl) (by decide) (a' := 0) (b' := 0) ⟨rfl, rfl⟩ dX13_nextTrip_4 (fun v1 hv1 => ?_)
  exact T_iret (pc := 7) (v1.1, v1.2) (fun h9 => h9) hv1.1 (nar_I _) (by decide) dX13_nextTrip_7

abbrev rm_X13_nextTripBySearch : Room := ⟨5, 0, 0, 113⟩
theorem cm_X13_nextTripBySearch : cmV yX13_nextTripBySearch cX13_nextTripBySearch 4 (some .int) 3 := ⟨kw_77, kw_145, ⟨by decide +kernel, by decide +kernel, by decide +kernel⟩, kw_351, kw_352⟩
def f_X13_nextTripBySearch (σ : Sm) (x1 : Int) (x2 : Int) (x3 : Int) : Option (Sm × Int) :=
  (f_X13_next σ x1 x2 x3).bind fun v1 => some (v1.1, v1.2)
theorem ct_X13_nextTripBySearch {l : Launch} {cy : ClassId} {ad : Nat → Nat} {G : va_G} (σ : Sm) (x1 : Int) (x2 : Int) (x3 : Int) (h1 : rng x1) (h2 : rng x2) (h3 : rng x3) (hw : wfm σ) (o : Sm × Int) (h : f_X13_nextTripBySearch σ x1 x2 x3 = some o) : CtI l yX13_nextTripBySearch cX13_nextTripBySearch 4 (some .int) rm_X13_nextTripBySearch (wlm cy ad) wfm G (tym cy) [.ref (ad 0), vi x1, vi x2, vi x3] σ o.1 o.2 := by
  refine ctI_of (by decide) (Nat.le_of_ble_eq_true rfl) hw o o h (fun X Y w => EndI X Y cX13_nextTripBySearch rm_X13_nextTripBySearch .int w) (fun _ _ h => h) (fun X A Q hX C => ?_)
  replace C : Cx X (Ym cy ad G A 4 Q) cX13_nextTripBySearch RX13 (some .int) rm_X13_nextTripBySearch (tym cy) := C
  show T X (Ym cy ad G A 4 Q) (fun w => EndI X (Ym cy ad G A 4 Q) cX13_nextTripBySearch rm_X13_nextTripBySearch .int w) 0 0 0 [(0, .ref (ad 0)), (1, vi x1), (2, vi x2), (3, vi x3)] [] σ (f_X13_nextTripBySearch σ x1 x2 x3)
  unfold f_X13_nextTripBySearch
  refine T_aload_n (pc := 0) C dX13_nextTripBySearch_0 rfl 0 rfl ?_
  refine T_iload_n (pc := 1) C dX13_nextTripBySearch_1 rfl 1 rfl ?_
  refine T_iload_n (pc := 2) C dX13_nextTripBySearch_2 rfl 2 rfl ?_
  refine T_iload_n (pc := 3) C dX13_nextTripBySearch_3 rfl 3 rfl ?_
  refine T_callVi (pc := 4) C [vi x1, vi x2, vi x3] [] (fun o h9 hw => ct_X13_next σ x1 x2 x3 h1 h2 h3 hw o h9) kw_348 cm_X13_next rcm rfl rfl (Nat.le_of_ble_eq_true rfl) (by decide) (a' := 0) (b' := 0) ⟨rfl, rfl⟩ dX13_nextTripBySearch_4 (fun v1 hv1 => ?_)
  exact T_iret (pc := 7) (v1.1, v1.2) (fun h9 => h9) hv1.1 (nar_I _) (by decide) dX13_nextTripBySearch_7

abbrev rm_X13_comes : Room := ⟨0, 0, 0, 0⟩
theorem cm_X13_comes : cmV yX13_comes cX13_comes 5 (some .boolean) 3 := ⟨kw_78, kw_145, ⟨by decide +kernel, by decide +kernel, by decide +kernel⟩, kw_355, kw_356⟩
def f_X13_comes (σ : Sm) (x1 : Int) (x2 : Int) (x3 : Int) : Option (Sm × Int) :=
  if 0 ≤ x1 ∧ x1 < 10 then (if x2 < (σ 5 x1.toNat) then (if (σ 5 x1.toNat) ≤ x2 then bl (upm σ 5 x1.toNat (σ 5 x1.toNat)) fun s7 => (if (s7 6 x1.toNat) ≤ x3 then bl (upm s7 6 x1.toNat (s7 6 x1.toNat)) fun s11 => some (s11, 1) else bl (upm s7 6 x1.toNat x3) fun s12 => some (s12, 1)) else bl (upm σ 5 x1.toNat x2) fun s13 => (if (s13 6 x1.toNat) ≤ x3 then bl (upm s13 6 x1.toNat (s13 6 x1.toNat)) fun s17 => some (s17, 1) else bl (upm s13 6 x1.toNat x3) fun s18 => some (s18, 1))) else (if (σ 6 x1.toNat) ≤ x3 then (if (σ 5 x1.toNat) ≤ x2 then bl (upm σ 5 x1.toNat (σ 5 x1.toNat)) fun s24 => (if (s24 6 x1.toNat) ≤ x3 then bl (upm s24 6 x1.toNat (s24 6 x1.toNat)) fun s28 => some (s28, 0) else bl (upm s24 6 x1.toNat x3) fun s29 => some (s29, 0)) else bl (upm σ 5 x1.toNat x2) fun s30 => (if (s30 6 x1.toNat) ≤ x3 then bl (upm s30 6 x1.toNat (s30 6 x1.toNat)) fun s34 => some (s34, 0) else bl (upm s30 6 x1.toNat x3) fun s35 => some (s35, 0))) else (if (σ 5 x1.toNat) ≤ x2 then bl (upm σ 5 x1.toNat (σ 5 x1.toNat)) fun s39 => (if (s39 6 x1.toNat) ≤ x3 then bl (upm s39 6 x1.toNat (s39 6 x1.toNat)) fun s43 => some (s43, 1) else bl (upm s39 6 x1.toNat x3) fun s44 => some (s44, 1)) else bl (upm σ 5 x1.toNat x2) fun s45 => (if (s45 6 x1.toNat) ≤ x3 then bl (upm s45 6 x1.toNat (s45 6 x1.toNat)) fun s49 => some (s49, 1) else bl (upm s45 6 x1.toNat x3) fun s50 => some (s50, 1))))) else none
theorem ct_X13_comes {l : Launch} {cy : ClassId} {ad : Nat → Nat} {G : va_G} (σ : Sm) (x1 : Int) (x2 : Int) (x3 : Int) (h1 : rng x1) (h2 : rng x2) (h3 : rng x3) (hw : wfm σ) (o : Sm × Int) (h : f_X13_comes σ x1 x2 x3 = some o) : CtI l yX13_comes cX13_comes 5 (some .boolean) rm_X13_comes (wlm cy ad) wfm G (tym cy) [.ref (ad 0), vi x1, vi x2, vi x3] σ o.1 o.2 := by
  refine ctI_of (by decide) (Nat.le_of_ble_eq_true rfl) hw o o h (fun X Y w => EndI X Y cX13_comes rm_X13_comes .boolean w) (fun _ _ h => h) (fun X A Q hX C => ?_)
  replace C : Cx X (Ym cy ad G A 5 Q) cX13_comes RX13 (some .boolean) rm_X13_comes (tym cy) := C
  show T X (Ym cy ad G A 5 Q) (fun w => EndI X (Ym cy ad G A 5 Q) cX13_comes rm_X13_comes .boolean w) 0 0 0 [(0, .ref (ad 0)), (1, vi x1), (2, vi x2), (3, vi x3)] [] σ (f_X13_comes σ x1 x2 x3)
  unfold f_X13_comes
  refine T_iload_n (pc := 0) C dX13_comes_0 rfl 2 rfl ?_
  refine T_aload_n (pc := 1) C dX13_comes_1 rfl 0 rfl ?_
  refine Tm_getA (pc := 2) C 4 5 (by decide) (fun _ => rfl) kw_353 rfl dX13_comes_2 ?_
  refine T_iload_n (pc := 5) C dX13_comes_5 rfl 1 rfl ?_
  refine T_guard (fun g1 => ?_)
  refine Tm_iald (pc := 6) C 5 x1.toNat ⟨by decide, by decide⟩ g1 rfl dX13_comes_6 (fun r2 => ?_)
  refine T_icmp_lt (pc := 7) C 20 dX13_comes_7 rfl h2 r2 (fun c3 => ?_) (fun c3 => ?_)
  · refine T_iconst (pc := 20) C dX13_comes_20 ?_
    refine T_goto (pc := 21) C 25 dX13_comes_21 rfl ?_
    refine T_istore (pc := 25) (L' := [(4, vi 1), (0, .ref (ad 0)), (1, vi x1), (2, vi x2), (3, vi x3)]) C dX13_comes_25 (Nat.le_of_ble_eq_true rfl) rfl ?_
    refine T_aload_n (pc := 27) C dX13_comes_27 rfl 1 rfl ?_
    refine Tm_getA (pc := 28) C 4 5 (by decide) (fun _ => rfl) kw_353 rfl dX13_comes_28 ?_
    refine T_iload_n (pc := 31) C dX13_comes_31 rfl 2 rfl ?_
    refine T_iload_n (pc := 32) C dX13_comes_32 rfl 3 rfl ?_
    refine T_aload_n (pc := 33) C dX13_comes_33 rfl 1 rfl ?_
    refine Tm_getA (pc := 34) C 4 5 (by decide) (fun _ => rfl) kw_353 rfl dX13_comes_34 ?_
    refine T_iload_n (pc := 37) C dX13_comes_37 rfl 2 rfl ?_
    refine Tm_iald (pc := 38) C 5 x1.toNat ⟨by decide, by decide⟩ g1 rfl dX13_comes_38 (fun r4 => ?_)
    refine T_icmp_ge (pc := 39) C 46 dX13_comes_39 rfl h2 r4 (fun c5 => ?_) (fun c5 => ?_)
    · refine T_aload_n (pc := 46) C dX13_comes_46 rfl 1 rfl ?_
      refine Tm_getA (pc := 47) C 4 5 (by decide) (fun _ => rfl) kw_353 rfl dX13_comes_47 ?_
      refine T_iload_n (pc := 50) C dX13_comes_50 rfl 2 rfl ?_
      refine Tm_iald (pc := 51) C 5 x1.toNat ⟨by decide, by decide⟩ g1 rfl dX13_comes_51 (fun r6 => ?_)
      refine Tm_iast (pc := 52) C 5 x1.toNat ⟨by decide, by decide⟩ g1 rfl r6 dX13_comes_52 ?_
      refine T_blS (fun s7 => ?_)
      refine T_aload_n (pc := 53) C dX13_comes_53 rfl 1 rfl ?_
      refine Tm_getA (pc := 54) C 5 6 (by decide) (fun _ => rfl) kw_354 rfl dX13_comes_54 ?_
      refine T_iload_n (pc := 57) C dX13_comes_57 rfl 2 rfl ?_
      refine T_iload_n (pc := 58) C dX13_comes_58 rfl 4 rfl ?_
      refine T_aload_n (pc := 59) C dX13_comes_59 rfl 1 rfl ?_
      refine Tm_getA (pc := 60) C 5 6 (by decide) (fun _ => rfl) kw_354 rfl dX13_comes_60 ?_
      refine T_iload_n (pc := 63) C dX13_comes_63 rfl 2 rfl ?_
      refine Tm_iald (pc := 64) C 6 x1.toNat ⟨by decide, by decide⟩ g1 rfl dX13_comes_64 (fun r8 => ?_)
      refine T_icmp_ge (pc := 65) C 72 dX13_comes_65 rfl h3 r8 (fun c9 => ?_) (fun c9 => ?_)
      · refine T_aload_n (pc := 72) C dX13_comes_72 rfl 1 rfl ?_
        refine Tm_getA (pc := 73) C 5 6 (by decide) (fun _ => rfl) kw_354 rfl dX13_comes_73 ?_
        refine T_iload_n (pc := 76) C dX13_comes_76 rfl 2 rfl ?_
        refine Tm_iald (pc := 77) C 6 x1.toNat ⟨by decide, by decide⟩ g1 rfl dX13_comes_77 (fun r10 => ?_)
        refine Tm_iast (pc := 78) C 6 x1.toNat ⟨by decide, by decide⟩ g1 rfl r10 dX13_comes_78 ?_
        refine T_blS (fun s11 => ?_)
        refine T_iload (pc := 79) C dX13_comes_79 0 rfl ?_
        exact T_iret (pc := 81) (s11, 1) (fun h9 => h9) (rngL rfl) (nar_Z (Or.inr rfl)) (by decide) dX13_comes_81
      · refine T_iload_n (pc := 68) C dX13_comes_68 rfl 4 rfl ?_
        refine T_goto (pc := 69) C 78 dX13_comes_69 rfl ?_
        refine Tm_iast (pc := 78) C 6 x1.toNat ⟨by decide, by decide⟩ g1 rfl h3 dX13_comes_78 ?_
        refine T_blS (fun s12 => ?_)
        refine T_iload (pc := 79) C dX13_comes_79 0 rfl ?_
        exact T_iret (pc := 81) (s12, 1) (fun h9 => h9) (rngL rfl) (nar_Z (Or.inr rfl)) (by decide) dX13_comes_81
    · refine T_iload_n (pc := 42) C dX13_comes_42 rfl 3 rfl ?_
      refine T_goto (pc := 43) C 52 dX13_comes_43 rfl ?_
      refine Tm_iast (pc := 52) C 5 x1.toNat ⟨by decide, by decide⟩ g1 rfl h2 dX13_comes_52 ?_
      refine T_blS (fun s13 => ?_)
      refine T_aload_n (pc := 53) C dX13_comes_53 rfl 1 rfl ?_
      refine Tm_getA (pc := 54) C 5 6 (by decide) (fun _ => rfl) kw_354 rfl dX13_comes_54 ?_
      refine T_iload_n (pc := 57) C dX13_comes_57 rfl 2 rfl ?_
      refine T_iload_n (pc := 58) C dX13_comes_58 rfl 4 rfl ?_
      refine T_aload_n (pc := 59) C dX13_comes_59 rfl 1 rfl ?_
      refine Tm_getA (pc := 60) C 5 6 (by decide) (fun _ => rfl) kw_354 rfl dX13_comes_60 ?_
      refine T_iload_n (pc := 63) C dX13_comes_63 rfl 2 rfl ?_
      refine Tm_iald (pc := 64) C 6 x1.toNat ⟨by decide, by decide⟩ g1 rfl dX13_comes_64 (fun r14 => ?_)
      refine T_icmp_ge (pc := 65) C 72 dX13_comes_65 rfl h3 r14 (fun c15 => ?_) (fun c15 => ?_)
      · refine T_aload_n (pc := 72) C dX13_comes_72 rfl 1 rfl ?_
        refine Tm_getA (pc := 73) C 5 6 (by decide) (fun _ => rfl) kw_354 rfl dX13_comes_73 ?_
        refine T_iload_n (pc := 76) C dX13_comes_76 rfl 2 rfl ?_
        refine Tm_iald (pc := 77) C 6 x1.toNat ⟨by decide, by decide⟩ g1 rfl dX13_comes_77 (fun r16 => ?_)
        refine Tm_iast (pc := 78) C 6 x1.toNat ⟨by decide, by decide⟩ g1 rfl r16 dX13_comes_78 ?_
        refine T_blS (fun s17 => ?_)
        refine T_iload (pc := 79) C dX13_comes_79 0 rfl ?_
        exact T_iret (pc := 81) (s17, 1) (fun h9 => h9) (rngL rfl) (nar_Z (Or.inr rfl)) (by decide) dX13_comes_81
      · refine T_iload_n (pc := 68) C dX13_comes_68 rfl 4 rfl ?_
        refine T_goto (pc := 69) C 78 dX13_comes_69 rfl ?_
        refine Tm_iast (pc := 78) C 6 x1.toNat ⟨by decide, by decide⟩ g1 rfl h3 dX13_comes_78 ?_
        refine T_blS (fun s18 => ?_)
        refine T_iload (pc := 79) C dX13_comes_79 0 rfl ?_
        exact T_iret (pc := 81) (s18, 1) (fun h9 => h9) (rngL rfl) (nar_Z (Or.inr rfl)) (by decide) dX13_comes_81
  · refine T_iload_n (pc := 10) C dX13_comes_10 rfl 3 rfl ?_
    refine T_aload_n (pc := 11) C dX13_comes_11 rfl 0 rfl ?_
    refine Tm_getA (pc := 12) C 5 6 (by decide) (fun _ => rfl) kw_354 rfl dX13_comes_12 ?_
    refine T_iload_n (pc := 15) C dX13_comes_15 rfl 1 rfl ?_
    refine Tm_iald (pc := 16) C 6 x1.toNat ⟨by decide, by decide⟩ g1 rfl dX13_comes_16 (fun r19 => ?_)
    refine T_icmp_ge (pc := 17) C 24 dX13_comes_17 rfl h3 r19 (fun c20 => ?_) (fun c20 => ?_)
    · refine T_iconst (pc := 24) C dX13_comes_24 ?_
      refine T_istore (pc := 25) (L' := [(4, vi 0), (0, .ref (ad 0)), (1, vi x1), (2, vi x2), (3, vi x3)]) C dX13_comes_25 (Nat.le_of_ble_eq_true rfl) rfl ?_
      refine T_aload_n (pc := 27) C dX13_comes_27 rfl 1 rfl ?_
      refine Tm_getA (pc := 28) C 4 5 (by decide) (fun _ => rfl) kw_353 rfl dX13_comes_28 ?_
      refine T_iload_n (pc := 31) C dX13_comes_31 rfl 2 rfl ?_
      refine T_iload_n (pc := 32) C dX13_comes_32 rfl 3 rfl ?_
      refine T_aload_n (pc := 33) C dX13_comes_33 rfl 1 rfl ?_
      refine Tm_getA (pc := 34) C 4 5 (by decide) (fun _ => rfl) kw_353 rfl dX13_comes_34 ?_
      refine T_iload_n (pc := 37) C dX13_comes_37 rfl 2 rfl ?_
      refine Tm_iald (pc := 38) C 5 x1.toNat ⟨by decide, by decide⟩ g1 rfl dX13_comes_38 (fun r21 => ?_)
      refine T_icmp_ge (pc := 39) C 46 dX13_comes_39 rfl h2 r21 (fun c22 => ?_) (fun c22 => ?_)
      · refine T_aload_n (pc := 46) C dX13_comes_46 rfl 1 rfl ?_
        refine Tm_getA (pc := 47) C 4 5 (by decide) (fun _ => rfl) kw_353 rfl dX13_comes_47 ?_
        refine T_iload_n (pc := 50) C dX13_comes_50 rfl 2 rfl ?_
        refine Tm_iald (pc := 51) C 5 x1.toNat ⟨by decide, by decide⟩ g1 rfl dX13_comes_51 (fun r23 => ?_)
        refine Tm_iast (pc := 52) C 5 x1.toNat ⟨by decide, by decide⟩ g1 rfl r23 dX13_comes_52 ?_
        refine T_blS (fun s24 => ?_)
        refine T_aload_n (pc := 53) C dX13_comes_53 rfl 1 rfl ?_
        refine Tm_getA (pc := 54) C 5 6 (by decide) (fun _ => rfl) kw_354 rfl dX13_comes_54 ?_
        refine T_iload_n (pc := 57) C dX13_comes_57 rfl 2 rfl ?_
        refine T_iload_n (pc := 58) C dX13_comes_58 rfl 4 rfl ?_
        refine T_aload_n (pc := 59) C dX13_comes_59 rfl 1 rfl ?_
        refine Tm_getA (pc := 60) C 5 6 (by decide) (fun _ => rfl) kw_354 rfl dX13_comes_60 ?_
        refine T_iload_n (pc := 63) C dX13_comes_63 rfl 2 rfl ?_
        refine Tm_iald (pc := 64) C 6 x1.toNat ⟨by decide, by decide⟩ g1 rfl dX13_comes_64 (fun r25 => ?_)
        refine T_icmp_ge (pc := 65) C 72 dX13_comes_65 rfl h3 r25 (fun c26 => ?_) (fun c26 => ?_)
        · refine T_aload_n (pc := 72) C dX13_comes_72 rfl 1 rfl ?_
          refine Tm_getA (pc := 73) C 5 6 (by decide) (fun _ => rfl) kw_354 rfl dX13_comes_73 ?_
          refine T_iload_n (pc := 76) C dX13_comes_76 rfl 2 rfl ?_
          refine Tm_iald (pc := 77) C 6 x1.toNat ⟨by decide, by decide⟩ g1 rfl dX13_comes_77 (fun r27 => ?_)
          refine Tm_iast (pc := 78) C 6 x1.toNat ⟨by decide, by decide⟩ g1 rfl r27 dX13_comes_78 ?_
          refine T_blS (fun s28 => ?_)
          refine T_iload (pc := 79) C dX13_comes_79 0 rfl ?_
          exact T_iret (pc := 81) (s28, 0) (fun h9 => h9) (rngL rfl) (nar_Z (Or.inl rfl)) (by decide) dX13_comes_81
        · refine T_iload_n (pc := 68) C dX13_comes_68 rfl 4 rfl ?_
          refine T_goto (pc := 69) C 78 dX13_comes_69 rfl ?_
          refine Tm_iast (pc := 78) C 6 x1.toNat ⟨by decide, by decide⟩ g1 rfl h3 dX13_comes_78 ?_
          refine T_blS (fun s29 => ?_)
          refine T_iload (pc := 79) C dX13_comes_79 0 rfl ?_
          exact T_iret (pc := 81) (s29, 0) (fun h9 => h9) (rngL rfl) (nar_Z (Or.inl rfl)) (by decide) dX13_comes_81
      · refine T_iload_n (pc := 42) C dX13_comes_42 rfl 3 rfl ?_
        refine T_goto (pc := 43) C 52 dX13_comes_43 rfl ?_
        refine Tm_iast (pc := 52) C 5 x1.toNat ⟨by decide, by decide⟩ g1 rfl h2 dX13_comes_52 ?_
        refine T_blS (fun s30 => ?_)
        refine T_aload_n (pc := 53) C dX13_comes_53 rfl 1 rfl ?_
        refine Tm_getA (pc := 54) C 5 6 (by decide) (fun _ => rfl) kw_354 rfl dX13_comes_54 ?_
        refine T_iload_n (pc := 57) C dX13_comes_57 rfl 2 rfl ?_
        refine T_iload_n (pc := 58) C dX13_comes_58 rfl 4 rfl ?_
        refine T_aload_n (pc := 59) C dX13_comes_59 rfl 1 rfl ?_
        refine Tm_getA (pc := 60) C 5 6 (by decide) (fun _ => rfl) kw_354 rfl dX13_comes_60 ?_
        refine T_iload_n (pc := 63) C dX13_comes_63 rfl 2 rfl ?_
        refine Tm_iald (pc := 64) C 6 x1.toNat ⟨by decide, by decide⟩ g1 rfl dX13_comes_64 (fun r31 => ?_)
        refine T_icmp_ge (pc := 65) C 72 dX13_comes_65 rfl h3 r31 (fun c32 => ?_) (fun c32 => ?_)
        · refine T_aload_n (pc := 72) C dX13_comes_72 rfl 1 rfl ?_
          refine Tm_getA (pc := 73) C 5 6 (by decide) (fun _ => rfl) kw_354 rfl dX13_comes_73 ?_
          refine T_iload_n (pc := 76) C dX13_comes_76 rfl 2 rfl ?_
          refine Tm_iald (pc := 77) C 6 x1.toNat ⟨by decide, by decide⟩ g1 rfl dX13_comes_77 (fun r33 => ?_)
          refine Tm_iast (pc := 78) C 6 x1.toNat ⟨by decide, by decide⟩ g1 rfl r33 dX13_comes_78 ?_
          refine T_blS (fun s34 => ?_)
          refine T_iload (pc := 79) C dX13_comes_79 0 rfl ?_
          exact T_iret (pc := 81) (s34, 0) (fun h9 => h9) (rngL rfl) (nar_Z (Or.inl rfl)) (by decide) dX13_comes_81
        · refine T_iload_n (pc := 68) C dX13_comes_68 rfl 4 rfl ?_
          refine T_goto (pc := 69) C 78 dX13_comes_69 rfl ?_
          refine Tm_iast (pc := 78) C 6 x1.toNat ⟨by decide, by decide⟩ g1 rfl h3 dX13_comes_78 ?_
          refine T_blS (fun s35 => ?_)
          refine T_iload (pc := 79) C dX13_comes_79 0 rfl ?_
          exact T_iret (pc := 81) (s35, 0) (fun h9 => h9) (rngL rfl) (nar_Z (Or.inl rfl)) (by decide) dX13_comes_81
    · refine T_iconst (pc := 20) C dX13_comes_20 ?_
      refine T_goto (pc := 21) C 25 dX13_comes_21 rfl ?_
      refine T_istore (pc := 25) (L' := [(4, vi 1), (0, .ref (ad 0)), (1, vi x1), (2, vi x2), (3, vi x3)]) C dX13_comes_25 (Nat.le_of_ble_eq_true rfl) rfl ?_
      refine T_aload_n (pc := 27) C dX13_comes_27 rfl 1 rfl ?_
      refine Tm_getA (pc := 28) C 4 5 (by decide) (fun _ => rfl) kw_353 rfl dX13_comes_28 ?_
      refine T_iload_n (pc := 31) C dX13_comes_31 rfl 2 rfl ?_
      refine T_iload_n (pc := 32) C dX13_comes_32 rfl 3 rfl ?_
      refine T_aload_n (pc := 33) C dX13_comes_33 rfl 1 rfl ?_
      refine Tm_getA (pc := 34) C 4 5 (by decide) (fun _ => rfl) kw_353 rfl dX13_comes_34 ?_
      refine T_iload_n (pc := 37) C dX13_comes_37 rfl 2 rfl ?_
      refine Tm_iald (pc := 38) C 5 x1.toNat ⟨by decide, by decide⟩ g1 rfl dX13_comes_38 (fun r36 => ?_)
      refine T_icmp_ge (pc := 39) C 46 dX13_comes_39 rfl h2 r36 (fun c37 => ?_) (fun c37 => ?_)
      · refine T_aload_n (pc := 46) C dX13_comes_46 rfl 1 rfl ?_
        refine Tm_getA (pc := 47) C 4 5 (by decide) (fun _ => rfl) kw_353 rfl dX13_comes_47 ?_
        refine T_iload_n (pc := 50) C dX13_comes_50 rfl 2 rfl ?_
        refine Tm_iald (pc := 51) C 5 x1.toNat ⟨by decide, by decide⟩ g1 rfl dX13_comes_51 (fun r38 => ?_)
        refine Tm_iast (pc := 52) C 5 x1.toNat ⟨by decide, by decide⟩ g1 rfl r38 dX13_comes_52 ?_
        refine T_blS (fun s39 => ?_)
        refine T_aload_n (pc := 53) C dX13_comes_53 rfl 1 rfl ?_
        refine Tm_getA (pc := 54) C 5 6 (by decide) (fun _ => rfl) kw_354 rfl dX13_comes_54 ?_
        refine T_iload_n (pc := 57) C dX13_comes_57 rfl 2 rfl ?_
        refine T_iload_n (pc := 58) C dX13_comes_58 rfl 4 rfl ?_
        refine T_aload_n (pc := 59) C dX13_comes_59 rfl 1 rfl ?_
        refine Tm_getA (pc := 60) C 5 6 (by decide) (fun _ => rfl) kw_354 rfl dX13_comes_60 ?_
        refine T_iload_n (pc := 63) C dX13_comes_63 rfl 2 rfl ?_
        refine Tm_iald (pc := 64) C 6 x1.toNat ⟨by decide, by decide⟩ g1 rfl dX13_comes_64 (fun r40 => ?_)
        refine T_icmp_ge (pc := 65) C 72 dX13_comes_65 rfl h3 r40 (fun c41 => ?_) (fun c41 => ?_)
        · refine T_aload_n (pc := 72) C dX13_comes_72 rfl 1 rfl ?_
          refine Tm_getA (pc := 73) C 5 6 (by decide) (fun _ => rfl) kw_354 rfl dX13_comes_73 ?_
          refine T_iload_n (pc := 76) C dX13_comes_76 rfl 2 rfl ?_
          refine Tm_iald (pc := 77) C 6 x1.toNat ⟨by decide, by decide⟩ g1 rfl dX13_comes_77 (fun r42 => ?_)
          refine Tm_iast (pc := 78) C 6 x1.toNat ⟨by decide, by decide⟩ g1 rfl r42 dX13_comes_78 ?_
          refine T_blS (fun s43 => ?_)
          refine T_iload (pc := 79) C dX13_comes_79 0 rfl ?_
          exact T_iret (pc := 81) (s43, 1) (fun h9 => h9) (rngL rfl) (nar_Z (Or.inr rfl)) (by decide) dX13_comes_81
        · refine T_iload_n (pc := 68) C dX13_comes_68 rfl 4 rfl ?_
          refine T_goto (pc := 69) C 78 dX13_comes_69 rfl ?_
          refine Tm_iast (pc := 78) C 6 x1.toNat ⟨by decide, by decide⟩ g1 rfl h3 dX13_comes_78 ?_
          refine T_blS (fun s44 => ?_)
          refine T_iload (pc := 79) C dX13_comes_79 0 rfl ?_
          exact T_iret (pc := 81) (s44, 1) (fun h9 => h9) (rngL rfl) (nar_Z (Or.inr rfl)) (by decide) dX13_comes_81
      · refine T_iload_n (pc := 42) C dX13_comes_42 rfl 3 rfl ?_
        refine T_goto (pc := 43) C 52 dX13_comes_43 rfl ?_
        refine Tm_iast (pc := 52) C 5 x1.toNat ⟨by decide, by decide⟩ g1 rfl h2 dX13_comes_52 ?_
        refine T_blS (fun s45 => ?_)
        refine T_aload_n (pc := 53) C dX13_comes_53 rfl 1 rfl ?_
        refine Tm_getA (pc := 54) C 5 6 (by decide) (fun _ => rfl) kw_354 rfl dX13_comes_54 ?_
        refine T_iload_n (pc := 57) C dX13_comes_57 rfl 2 rfl ?_
        refine T_iload_n (pc := 58) C dX13_comes_58 rfl 4 rfl ?_
        refine T_aload_n (pc := 59) C dX13_comes_59 rfl 1 rfl ?_
        refine Tm_getA (pc := 60) C 5 6 (by decide) (fun _ => rfl) kw_354 rfl dX13_comes_60 ?_
        refine T_iload_n (pc := 63) C dX13_comes_63 rfl 2 rfl ?_
        refine Tm_iald (pc := 64) C 6 x1.toNat ⟨by decide, by decide⟩ g1 rfl dX13_comes_64 (fun r46 => ?_)
        refine T_icmp_ge (pc := 65) C 72 dX13_comes_65 rfl h3 r46 (fun c47 => ?_) (fun c47 => ?_)
        · refine T_aload_n (pc := 72) C dX13_comes_72 rfl 1 rfl ?_
          refine Tm_getA (pc := 73) C 5 6 (by decide) (fun _ => rfl) kw_354 rfl dX13_comes_73 ?_
          refine T_iload_n (pc := 76) C dX13_comes_76 rfl 2 rfl ?_
          refine Tm_iald (pc := 77) C 6 x1.toNat ⟨by decide, by decide⟩ g1 rfl dX13_comes_77 (fun r48 => ?_)
          refine Tm_iast (pc := 78) C 6 x1.toNat ⟨by decide, by decide⟩ g1 rfl r48 dX13_comes_78 ?_
          refine T_blS (fun s49 => ?_)
          refine T_iload (pc := 79) C dX13_comes_79 0 rfl ?_
          exact T_iret (pc := 81) (s49, 1) (fun h9 => h9) (rngL rfl) (nar_Z (Or.inr rfl)) (by decide) dX13_comes_81
        · refine T_iload_n (pc := 68) C dX13_comes_68 rfl 4 rfl ?_
          refine T_goto (pc := 69) C 78 dX13_comes_69 rfl ?_
          refine Tm_iast (pc := 78) C 6 x1.toNat ⟨by decide, by decide⟩ g1 rfl h3 dX13_comes_78 ?_
          refine T_blS (fun s50 => ?_)
          refine T_iload (pc := 79) C dX13_comes_79 0 rfl ?_
          exact T_iret (pc := 81) (s50, 1) (fun h9 => h9) (rngL rfl) (nar_Z (Or.inr rfl)) (by decide) dX13_comes_81

abbrev rm_X13_ridesFrom : Room := ⟨4, 0, 0, 90⟩
theorem cm_X13_ridesFrom : cmV yX13_ridesFrom cX13_ridesFrom 9 (some .boolean) 2 := ⟨kw_79, kw_145, ⟨by decide +kernel, by decide +kernel, by decide +kernel⟩, kw_359, kw_360⟩
def f_X13_ridesFrom_50 (x1 : Int) (x5 : Int) : Nat → Sm → Int → Int → Option (Sm × Int)
  | 0, _, _, _ => none
  | n + 1, s0, x4, x6 => (f_X13_l s0 x1 5).bind fun v10 => (if v10 < x6 then some (s0, x4) else (f_X13_at s0 x1 x6).bind fun v12 => (f_X13_minuteOf s0 x1 x5 x6).bind fun v13 => (f_X13_isOpen s0 v12).bind fun v14 => (if v14 = 0 then if rng (x6 + 1) then f_X13_ridesFrom_50 x1 x5 n s0 x4 (x6 + 1) else none else (f_X13_transfer s0 v12).bind fun v17 => if rng (v13 + v17) then (f_X13_comes s0 v12 v13 (v13 + v17)).bind fun v19 => bl (ior x4 v19.2) fun v20 => if rng (x6 + 1) then f_X13_ridesFrom_50 x1 x5 n v19.1 v20 (x6 + 1) else none else none))
theorem lp_X13_ridesFrom_50 {X : vjX} {A : Nat → Prop} {Q : State → Prop} {cy : ClassId} {ad : Nat → Nat} {G : va_G} (C : Cx X (Ym cy ad G A 9 Q) cX13_ridesFrom RX13 (some .boolean) rm_X13_ridesFrom (tym cy)) (x1 : Int) (x5 : Int) (h1 : rng x1) (h5 : rng x5) : ∀ (n : Nat) (s0 : Sm) (x4 : Int) (x6 : Int) (h4 : bit x4) (h6 : rng x6), T X (Ym cy ad G A 9 Q) (fun (q : Sm × Int) => bit q.2 → J X (Ym cy ad G A 9 Q) 0 0 118 [(4, vi q.2)] [] q.1) 0 0 50 [(0, .ref (ad 0)), (1, vi x1), (4, vi x4), (5, vi x5), (6, vi x6)] [] s0 (f_X13_ridesFrom_50 x1 x5 n s0 x4 x6) := by
  intro n
  induction n with
  | zero => intro s0 x4 x6 h4 h6; exact T_none
  | succ n ih =>
    intro s0 x4 x6 h4 h6
    rw [f_X13_ridesFrom_50]
    refine T_iload (pc := 50) C dX13_ridesFrom_50 4 rfl ?_
    refine T_aload_n (pc := 52) C dX13_ridesFrom_52 rfl 0 rfl ?_
    refine T_iload_n (pc := 53) C dX13_ridesFrom_53 rfl 1 rfl ?_
    refine T_iconst (pc := 54) C dX13_ridesFrom_54 ?_
    refine T_callVip (pc := 55) C [vi x1, vi 5] [vi x6] (fun o h9 hw => ct_X13_l s0 x1 5 h1 (rngL rfl) hw o h9) kw_211 cm_X13_l rcm rfl rfl (Nat.le_of_ble_eq_true rfl) (by decide) (a' := 0) (b' := 0) ⟨rfl, rfl⟩ dX13_ridesFrom_55 (fun v10 hv10 => ?_)
    refine T_icmp_gt (pc := 58) C 118 dX13_ridesFrom_58 rfl h6 hv10.1 (fun c11 => ?_) (fun c11 => ?_)
    · refine T_sub (L' := [(4, vi x4)]) [2] rfl ?_
      exact T_exit (fun h9 => h9 h4)
    · refine T_aload_n (pc := 61) C dX13_ridesFrom_61 rfl 0 rfl ?_
      refine T_iload_n (pc := 62) C dX13_ridesFrom_62 rfl 1 rfl ?_
      refine T_iload (pc := 63) C dX13_ridesFrom_63 4 rfl ?_
      refine T_callVip (pc := 65) C [vi x1, vi x6] [] (fun o h9 hw => ct_X13_at s0 x1 x6 h1 h6 hw o h9) kw_334 cm_X13_at rcm rfl rfl (Nat.le_of_ble_eq_true rfl) (by decide) (a' := 0) (b' := 0) ⟨rfl, rfl⟩ dX13_ridesFrom_65 (fun v12 hv12 => ?_)
      refine T_istore (pc := 68) (L' := [(7, vi v12), (0, .ref (ad 0)), (1, vi x1), (4, vi x4), (5, vi x5), (6, vi x6)]) C dX13_ridesFrom_68 (Nat.le_of_ble_eq_true rfl) rfl ?_
      refine T_aload_n (pc := 70) C dX13_ridesFrom_70 rfl 1 rfl ?_
      refine T_iload_n (pc := 71) C dX13_ridesFrom_71 rfl 2 rfl ?_
      refine T_iload (pc := 72) C dX13_ridesFrom_72 4 rfl ?_
      refine T_iload (pc := 74) C dX13_ridesFrom_74 5 rfl ?_
      refine T_callVip (pc := 76) C [vi x1, vi x5, vi x6] [] (fun o h9 hw => ct_X13_minuteOf s0 x1 x5 x6 h1 h5 h6 hw o h9) kw_223 cm_X13_minuteOf rcm rfl rfl (Nat.le_of_ble_eq_true rfl) (by decide) (a' := 0) (b' := 0) ⟨rfl, rfl⟩ dX13_ridesFrom_76 (fun v13 hv13 => ?_)
      refine T_istore (pc := 79) (L' := [(8, vi v13), (7, vi v12), (0, .ref (ad 0)), (1, vi x1), (4, vi x4), (5, vi x5), (6, vi x6)]) C dX13_ridesFrom_79 (Nat.le_of_ble_eq_true rfl) rfl ?_
      refine T_aload_n (pc := 81) C dX13_ridesFrom_81 rfl 2 rfl ?_
      refine T_iload (pc := 82) C dX13_ridesFrom_82 1 rfl ?_
      refine T_callVip (pc := 84) C [vi v12] [] (fun o h9 hw => ct_X13_isOpen s0 v12 hv12.1 hw o h9) kw_325 cm_X13_isOpen rcm rfl rfl (Nat.le_of_ble_eq_true rfl) (by decide) (a' := 0) (b' := 0) ⟨rfl, rfl⟩ dX13_ridesFrom_84 (fun v14 hv14 => ?_)
      refine T_if_eq (pc := 87) C 112 dX13_ridesFrom_87 rfl hv14.1 (fun c15 => ?_) (fun c15 => ?_)
      · refine T_iinc (pc := 112) (L' := [(6, vi (x6 + 1)), (8, vi v13), (7, vi v12), (0, .ref (ad 0)), (1, vi x1), (4, vi x4), (5, vi x5)]) C dX13_ridesFrom_112 (Nat.le_of_ble_eq_true rfl) 6 rfl rfl ?_
        refine T_goto (pc := 115) C 50 dX13_ridesFrom_115 rfl ?_
        refine T_sub (L' := [(0, .ref (ad 0)), (1, vi x1), (4, vi x4), (5, vi x5), (6, vi (x6 + 1))]) [3, 4, 5, 6, 0] rfl ?_
        refine T_guard (fun g16 => ?_)
        exact ih s0 x4 (x6 + 1) h4 g16
      · refine T_iload (pc := 90) C dX13_ridesFrom_90 4 rfl ?_
        refine T_aload_n (pc := 92) C dX13_ridesFrom_92 rfl 2 rfl ?_
        refine T_iload (pc := 93) C dX13_ridesFrom_93 1 rfl ?_
        refine T_iload (pc := 95) C dX13_ridesFrom_95 0 rfl ?_
        refine T_iload (pc := 97) C dX13_ridesFrom_97 0 rfl ?_
        refine T_aload_n (pc := 99) C dX13_ridesFrom_99 rfl 2 rfl ?_
        refine T_iload (pc := 100) C dX13_ridesFrom_100 1 rfl ?_
        refine T_callVip (pc := 102) C [vi v12] [vi v13, vi v13, vi v12, .ref (ad 0), vi x4] (fun o h9 hw => ct_X13_transfer s0 v12 hv12.1 hw o h9) kw_322 cm_X13_transfer rcm rfl rfl (Nat.le_of_ble_eq_true rfl) (by decide) (a' := 0) (b' := 0) ⟨rfl, rfl⟩ dX13_ridesFrom_102 (fun v17 hv17 => ?_)
        refine T_iadd (pc := 105) C dX13_ridesFrom_105 ?_
        refine T_guard (fun g18 => ?_)
        refine T_callVi (pc := 106) C [vi v12, vi v13, vi (v13 + v17)] [vi x4] (fun o h9 hw => ct_X13_comes s0 v12 v13 (v13 + v17) hv12.1 hv13.1 g18 hw o h9) kw_358 cm_X13_comes rcm rfl rfl (Nat.le_of_ble_eq_true rfl) (by decide) (a' := 0) (b' := 0) ⟨rfl, rfl⟩ dX13_ridesFrom_106 (fun v19 hv19 => ?_)
        refine T_ior (pc := 109) C (bit_nn h4) (bit_nn (bit_of_nar hv19)) dX13_ridesFrom_109 ?_
        refine T_blB (bit_or h4 (bit_of_nar hv19)) (fun v20 hv20 => ?_)
        refine T_istore (pc := 110) (L' := [(4, vi v20), (8, vi v13), (7, vi v12), (0, .ref (ad 0)), (1, vi x1), (5, vi x5), (6, vi x6)]) C dX13_ridesFrom_110 (Nat.le_of_ble_eq_true rfl) rfl ?_
        refine T_iinc (pc := 112) (L' := [(6, vi (x6 + 1)), (4, vi v20), (8, vi v13), (7, vi v12), (0, .ref (ad 0)), (1, vi x1), (5, vi x5)]) C dX13_ridesFrom_112 (Nat.le_of_ble_eq_true rfl) 6 rfl rfl ?_
        refine T_goto (pc := 115) C 50 dX13_ridesFrom_115 rfl ?_
        refine T_sub (L' := [(0, .ref (ad 0)), (1, vi x1), (4, vi v20), (5, vi x5), (6, vi (x6 + 1))]) [4, 5, 1, 6, 0] rfl ?_
        refine T_guard (fun g21 => ?_)
        exact ih v19.1 v20 (x6 + 1) hv20 g21
def f_X13_ridesFrom (N : Nat) (σ : Sm) (x1 : Int) (x2 : Int) : Option (Sm × Int) :=
  (f_X13_at σ x1 x2).bind fun v1 => (f_X13_isOpen σ v1).bind fun v2 => (if v2 = 0 then some (σ, 0) else if 0 ≤ v1 ∧ v1 < 10 then (if (σ 6 v1.toNat) = 1000000000 then some (σ, 0) else (f_X13_first σ x1 x2 (σ 6 v1.toNat)).bind fun v8 => bl (x2 + 1) fun v9 => if rng v9 then (f_X13_ridesFrom_50 x1 v8 N σ 0 v9).bind fun q23 => some (q23.1, q23.2) else none) else none)
theorem ct_X13_ridesFrom {l : Launch} {cy : ClassId} {ad : Nat → Nat} {G : va_G} (N : Nat) (σ : Sm) (x1 : Int) (x2 : Int) (h1 : rng x1) (h2 : rng x2) (hw : wfm σ) (o : Sm × Int) (h : f_X13_ridesFrom N σ x1 x2 = some o) : CtI l yX13_ridesFrom cX13_ridesFrom 9 (some .boolean) rm_X13_ridesFrom (wlm cy ad) wfm G (tym cy) [.ref (ad 0), vi x1, vi x2] σ o.1 o.2 := by
  refine ctI_of (by decide) (Nat.le_of_ble_eq_true rfl) hw o o h (fun X Y w => EndI X Y cX13_ridesFrom rm_X13_ridesFrom .boolean w) (fun _ _ h => h) (fun X A Q hX C => ?_)
  replace C : Cx X (Ym cy ad G A 9 Q) cX13_ridesFrom RX13 (some .boolean) rm_X13_ridesFrom (tym cy) := C
  show T X (Ym cy ad G A 9 Q) (fun w => EndI X (Ym cy ad G A 9 Q) cX13_ridesFrom rm_X13_ridesFrom .boolean w) 0 0 0 [(0, .ref (ad 0)), (1, vi x1), (2, vi x2)] [] σ (f_X13_ridesFrom N σ x1 x2)
  unfold f_X13_ridesFrom
  refine T_aload_n (pc := 0) C dX13_ridesFrom_0 rfl 0 rfl ?_
  refine T_iload_n (pc := 1) C dX13_ridesFrom_1 rfl 1 rfl ?_
  refine T_iload_n (pc := 2) C dX13_ridesFrom_2 rfl 2 rfl ?_
  refine T_callVip (pc := 3) C [vi x1, vi x2] [] (fun o h9 hw => ct_X13_at σ x1 x2 h1 h2 hw o h9) kw_334 cm_X13_at rcm rfl rfl (Nat.le_of_ble_eq_true rfl) (by decide) (a' := 0) (b' := 0) ⟨rfl, rfl⟩ dX13_ridesFrom_3 (fun v1 hv1 => ?_)
  refine T_istore_n (pc := 6) (L' := [(3, vi v1), (0, .ref (ad 0)), (1, vi x1), (2, vi x2)]) C dX13_ridesFrom_6 rfl (Nat.le_of_ble_eq_true rfl) rfl ?_
  refine T_aload_n (pc := 7) C dX13_ridesFrom_7 rfl 1 rfl ?_
  refine T_iload_n (pc := 8) C dX13_ridesFrom_8 rfl 0 rfl ?_
  refine T_callVip (pc := 9) C [vi v1] [] (fun o h9 hw => ct_X13_isOpen σ v1 hv1.1 hw o h9) kw_325 cm_X13_isOpen rcm rfl rfl (Nat.le_of_ble_eq_true rfl) (by decide) (a' := 0) (b' := 0) ⟨rfl, rfl⟩ dX13_ridesFrom_9 (fun v2 hv2 => ?_)
  refine T_if_eq (pc := 12) C 26 dX13_ridesFrom_12 rfl hv2.1 (fun c3 => ?_) (fun c3 => ?_)
  · refine T_iconst (pc := 26) C dX13_ridesFrom_26 ?_
    exact T_iret (pc := 27) (σ, 0) (fun h9 => h9) (rngL rfl) (nar_Z (Or.inl rfl)) (by decide) dX13_ridesFrom_27
  · refine T_aload_n (pc := 15) C dX13_ridesFrom_15 rfl 1 rfl ?_
    refine Tm_getA (pc := 16) C 5 6 (by decide) (fun _ => rfl) kw_354 rfl dX13_ridesFrom_16 ?_
    refine T_iload_n (pc := 19) C dX13_ridesFrom_19 rfl 0 rfl ?_
    refine T_guard (fun g4 => ?_)
    refine Tm_iald (pc := 20) C 6 v1.toNat ⟨by decide, by decide⟩ g4 rfl dX13_ridesFrom_20 (fun r5 => ?_)
    refine T_ldc (pc := 21) C 1000000000 dX13_ridesFrom_21 kw_357 (by decide) ?_
    refine T_icmp_ne (pc := 23) C 28 dX13_ridesFrom_23 rfl r5 (rngL rfl) (fun c6 => ?_) (fun c6 => ?_)
    · refine T_iconst (pc := 28) C dX13_ridesFrom_28 ?_
      refine T_istore (pc := 29) (L' := [(4, vi 0), (3, vi v1), (0, .ref (ad 0)), (1, vi x1), (2, vi x2)]) C dX13_ridesFrom_29 (Nat.le_of_ble_eq_true rfl) rfl ?_
      refine T_aload_n (pc := 31) C dX13_ridesFrom_31 rfl 2 rfl ?_
      refine T_iload_n (pc := 32) C dX13_ridesFrom_32 rfl 3 rfl ?_
      refine T_iload_n (pc := 33) C dX13_ridesFrom_33 rfl 4 rfl ?_
      refine T_aload_n (pc := 34) C dX13_ridesFrom_34 rfl 2 rfl ?_
      refine Tm_getA (pc := 35) C 5 6 (by decide) (fun _ => rfl) kw_354 rfl dX13_ridesFrom_35 ?_
      refine T_iload_n (pc := 38) C dX13_ridesFrom_38 rfl 1 rfl ?_
      refine Tm_iald (pc := 39) C 6 v1.toNat ⟨by decide, by decide⟩ g4 rfl dX13_ridesFrom_39 (fun r7 => ?_)
      refine T_callVip (pc := 40) C [vi x1, vi x2, vi (σ 6 v1.toNat)] [] (fun o h9 hw => ct_X13_first σ x1 x2 (σ 6 v1.toNat) h1 h2 r7 hw o h9) kw_345 cm_X13_first rcm rfl rfl (Nat.le_of_ble_eq_true rfl) (by decide) (a' := 0) (b' := 0) ⟨rfl, rfl⟩ dX13_ridesFrom_40 (fun v8 hv8 => ?_)
      refine T_istore (pc := 43) (L' := [(5, vi v8), (4, vi 0), (3, vi v1), (0, .ref (ad 0)), (1, vi x1), (2, vi x2)]) C dX13_ridesFrom_43 (Nat.le_of_ble_eq_true rfl) rfl ?_
      refine T_iload_n (pc := 45) C dX13_ridesFrom_45 rfl 5 rfl ?_
      refine T_iconst (pc := 46) C dX13_ridesFrom_46 ?_
      refine T_iadd (pc := 47) C dX13_ridesFrom_47 ?_
      refine T_blN (fun v9 => ?_)
      refine T_istore (pc := 48) (L' := [(6, vi v9), (5, vi v8), (4, vi 0), (3, vi v1), (0, .ref (ad 0)), (1, vi x1), (2, vi x2)]) C dX13_ridesFrom_48 (Nat.le_of_ble_eq_true rfl) rfl ?_
      refine T_sub (L' := [(0, .ref (ad 0)), (1, vi x1), (4, vi 0), (5, vi v8), (6, vi v9)]) [4, 5, 2, 1, 0] rfl ?_
      refine T_guard (fun g22 => ?_)
      refine T_loopE (lp_X13_ridesFrom_50 C x1 v8 h1 hv8.1 N σ 0 v9 (Or.inl rfl) g22) (fun q23 hq23 => ?_)
      refine T_iload (pc := 118) C dX13_ridesFrom_118 0 rfl ?_
      exact T_iret (pc := 120) (q23.1, q23.2) (fun h9 => h9) (bit_rng hq23) (nar_Z hq23) (by decide) dX13_ridesFrom_120
    · refine T_iconst (pc := 26) C dX13_ridesFrom_26 ?_
      exact T_iret (pc := 27) (σ, 0) (fun h9 => h9) (rngL rfl) (nar_Z (Or.inl rfl)) (by decide) dX13_ridesFrom_27

abbrev rm_X13_walksFrom : Room := ⟨1, 0, 0, 24⟩
theorem cm_X13_walksFrom : cmV yX13_walksFrom cX13_walksFrom 4 (some .boolean) 1 := ⟨kw_80, kw_145, ⟨by decide +kernel, by decide +kernel, by decide +kernel⟩, kw_361, kw_362⟩
def f_X13_walksFrom_25 (x1 : Int) : Nat → Sm → Int → Int → Option (Sm × Int)
  | 0, _, _, _ => none
  | n + 1, s0, x2, x3 => (if (s0 1 0) ≤ x3 then some (s0, x2) else (f_X13_walk s0 x1 x3).bind fun v12 => (if v12 ≤ 0 then f_X13_walksFrom_25 x1 n s0 x2 (x3 + 1) else (f_X13_isOpen s0 x3).bind fun v14 => (if v14 = 0 then f_X13_walksFrom_25 x1 n s0 x2 (x3 + 1) else if 0 ≤ x1 ∧ x1 < 10 then (f_X13_walk s0 x1 x3).bind fun v18 => (f_X13_walk s0 x1 x3).bind fun v20 => if rng ((s0 5 x1.toNat) + v18) then if rng ((s0 5 x1.toNat) + v20) then (f_X13_comes s0 x3 ((s0 5 x1.toNat) + v18) ((s0 5 x1.toNat) + v20)).bind fun v23 => bl (ior x2 v23.2) fun v24 => f_X13_walksFrom_25 x1 n v23.1 v24 (x3 + 1) else none else none else none)))
theorem lp_X13_walksFrom_25 {X : vjX} {A : Nat → Prop} {Q : State → Prop} {cy : ClassId} {ad : Nat → Nat} {G : va_G} (C : Cx X (Ym cy ad G A 4 Q) cX13_walksFrom RX13 (some .boolean) rm_X13_walksFrom (tym cy)) (x1 : Int) (h1 : rng x1) : ∀ (n : Nat) (s0 : Sm) (x2 : Int) (x3 : Int) (h2 : bit x2) (h3 : rng x3), T X (Ym cy ad G A 4 Q) (fun (q : Sm × Int) => bit q.2 → J X (Ym cy ad G A 4 Q) 0 0 92 [(2, vi q.2)] [] q.1) 0 0 25 [(0, .ref (ad 0)), (1, vi x1), (2, vi x2), (3, vi x3)] [] s0 (f_X13_walksFrom_25 x1 n s0 x2 x3) := by
  intro n
  induction n with
  | zero => intro s0 x2 x3 h2 h3; exact T_none
  | succ n ih =>
    intro s0 x2 x3 h2 h3
    rw [f_X13_walksFrom_25]
    refine T_iload_n (pc := 25) C dX13_walksFrom_25 rfl 3 rfl ?_
    refine T_aload_n (pc := 26) C dX13_walksFrom_26 rfl 0 rfl ?_
    refine Tm_getA (pc := 27) C 0 1 (by decide) (fun _ => rfl) kw_152 rfl dX13_walksFrom_27 ?_
    refine T_iconst (pc := 30) C dX13_walksFrom_30 ?_
    refine Tm_iald (pc := 31) C 1 0 ⟨by decide, by decide⟩ ⟨by decide, by decide⟩ rfl dX13_walksFrom_31 (fun r10 => ?_)
    refine T_icmp_ge (pc := 32) C 92 dX13_walksFrom_32 rfl h3 r10 (fun c11 => ?_) (fun c11 => ?_)
    · refine T_sub (L' := [(2, vi x2)]) [2] rfl ?_
      exact T_exit (fun h9 => h9 h2)
    · refine T_aload_n (pc := 35) C dX13_walksFrom_35 rfl 0 rfl ?_
      refine T_iload_n (pc := 36) C dX13_walksFrom_36 rfl 1 rfl ?_
      refine T_iload_n (pc := 37) C dX13_walksFrom_37 rfl 3 rfl ?_
      refine T_callVip (pc := 38) C [vi x1, vi x3] [] (fun o h9 hw => ct_X13_walk s0 x1 x3 h1 h3 hw o h9) kw_185 cm_X13_walk rcm rfl rfl (Nat.le_of_ble_eq_true rfl) (by decide) (a' := 0) (b' := 0) ⟨rfl, rfl⟩ dX13_walksFrom_38 (fun v12 hv12 => ?_)
      refine T_if_le (pc := 41) C 86 dX13_walksFrom_41 rfl hv12.1 (fun c13 => ?_) (fun c13 => ?_)
      · refine T_iinc (pc := 86) (L' := [(3, vi (x3 + 1)), (0, .ref (ad 0)), (1, vi x1), (2, vi x2)]) C dX13_walksFrom_86 (Nat.le_of_ble_eq_true rfl) 3 rfl rfl ?_
        refine T_goto (pc := 89) C 25 dX13_walksFrom_89 rfl ?_
        refine T_sub (L' := [(0, .ref (ad 0)), (1, vi x1), (2, vi x2), (3, vi (x3 + 1))]) [1, 2, 3, 0] rfl ?_
        exact ih s0 x2 (x3 + 1) h2 (rng_inc c11 h3 r10)
      · refine T_aload_n (pc := 44) C dX13_walksFrom_44 rfl 0 rfl ?_
        refine T_iload_n (pc := 45) C dX13_walksFrom_45 rfl 3 rfl ?_
        refine T_callVip (pc := 46) C [vi x3] [] (fun o h9 hw => ct_X13_isOpen s0 x3 h3 hw o h9) kw_325 cm_X13_isOpen rcm rfl rfl (Nat.le_of_ble_eq_true rfl) (by decide) (a' := 0) (b' := 0) ⟨rfl, rfl⟩ dX13_walksFrom_46 (fun v14 hv14 => ?_)
        refine T_if_eq (pc := 49) C 86 dX13_walksFrom_49 rfl hv14.1 (fun c15 => ?_) (fun c15 => ?_)
        · refine T_iinc (pc := 86) (L' := [(3, vi (x3 + 1)), (0, .ref (ad 0)), (1, vi x1), (2, vi x2)]) C dX13_walksFrom_86 (Nat.le_of_ble_eq_true rfl) 3 rfl rfl ?_
          refine T_goto (pc := 89) C 25 dX13_walksFrom_89 rfl ?_
          refine T_sub (L' := [(0, .ref (ad 0)), (1, vi x1), (2, vi x2), (3, vi (x3 + 1))]) [1, 2, 3, 0] rfl ?_
          exact ih s0 x2 (x3 + 1) h2 (rng_inc c11 h3 r10)
        · refine T_iload_n (pc := 52) C dX13_walksFrom_52 rfl 2 rfl ?_
          refine T_aload_n (pc := 53) C dX13_walksFrom_53 rfl 0 rfl ?_
          refine T_iload_n (pc := 54) C dX13_walksFrom_54 rfl 3 rfl ?_
          refine T_aload_n (pc := 55) C dX13_walksFrom_55 rfl 0 rfl ?_
          refine Tm_getA (pc := 56) C 4 5 (by decide) (fun _ => rfl) kw_353 rfl dX13_walksFrom_56 ?_
          refine T_iload_n (pc := 59) C dX13_walksFrom_59 rfl 1 rfl ?_
          refine T_guard (fun g16 => ?_)
          refine Tm_iald (pc := 60) C 5 x1.toNat ⟨by decide, by decide⟩ g16 rfl dX13_walksFrom_60 (fun r17 => ?_)
          refine T_aload_n (pc := 61) C dX13_walksFrom_61 rfl 0 rfl ?_
          refine T_iload_n (pc := 62) C dX13_walksFrom_62 rfl 1 rfl ?_
          refine T_iload_n (pc := 63) C dX13_walksFrom_63 rfl 3 rfl ?_
          refine T_callVip (pc := 64) C [vi x1, vi x3] [vi (s0 5 x1.toNat), vi x3, .ref (ad 0), vi x2] (fun o h9 hw => ct_X13_walk s0 x1 x3 h1 h3 hw o h9) kw_185 cm_X13_walk rcm rfl rfl (Nat.le_of_ble_eq_true rfl) (by decide) (a' := 0) (b' := 0) ⟨rfl, rfl⟩ dX13_walksFrom_64 (fun v18 hv18 => ?_)
          refine T_iadd (pc := 67) C dX13_walksFrom_67 ?_
          refine T_aload_n (pc := 68) C dX13_walksFrom_68 rfl 0 rfl ?_
          refine Tm_getA (pc := 69) C 4 5 (by decide) (fun _ => rfl) kw_353 rfl dX13_walksFrom_69 ?_
          refine T_iload_n (pc := 72) C dX13_walksFrom_72 rfl 1 rfl ?_
          refine Tm_iald (pc := 73) C 5 x1.toNat ⟨by decide, by decide⟩ g16 rfl dX13_walksFrom_73 (fun r19 => ?_)
          refine T_aload_n (pc := 74) C dX13_walksFrom_74 rfl 0 rfl ?_
          refine T_iload_n (pc := 75) C dX13_walksFrom_75 rfl 1 rfl ?_
          refine T_iload_n (pc := 76) C dX13_walksFrom_76 rfl 3 rfl ?_
          refine T_callVip (pc := 77) C [vi x1, vi x3] [vi (s0 5 x1.toNat), vi ((s0 5 x1.toNat) + v18), vi x3, .ref (ad 0), vi x2] (fun o h9 hw => ct_X13_walk s0 x1 x3 h1 h3 hw o h9) kw_185 cm_X13_walk rcm rfl rfl (Nat.le_of_ble_eq_true rfl) (by decide) (a' := 0) (b' := 0) ⟨rfl, rfl⟩ dX13_walksFrom_77 (fun v20 hv20 => ?_)
          refine T_iadd (pc := 80) C dX13_walksFrom_80 ?_
          refine T_guard (fun g21 => ?_)
          refine T_guard (fun g22 => ?_)
          refine T_callVi (pc := 81) C [vi x3, vi ((s0 5 x1.toNat) + v18), vi ((s0 5 x1.toNat) + v20)] [vi x2] (fun o h9 hw => ct_X13_comes s0 x3 ((s0 5 x1.toNat) + v18) ((s0 5 x1.toNat) + v20) h3 g21 g22 hw o h9) kw_358 cm_X13_comes rcm rfl rfl (Nat.le_of_ble_eq_true rfl) (by decide) (a' := 0) (b' := 0) ⟨rfl, rfl⟩ dX13_walksFrom_81 (fun v23 hv23 => ?_)
          refine T_ior (pc := 84) C (bit_nn h2) (bit_nn (bit_of_nar hv23)) dX13_walksFrom_84 ?_
          refine T_blB (bit_or h2 (bit_of_nar hv23)) (fun v24 hv24 => ?_)
          refine T_istore_n (pc := 85) (L' := [(2, vi v24), (0, .ref (ad 0)), (1, vi x1), (3, vi x3)]) C dX13_walksFrom_85 rfl (Nat.le_of_ble_eq_true rfl) rfl ?_
          refine T_iinc (pc := 86) (L' := [(3, vi (x3 + 1)), (2, vi v24), (0, .ref (ad 0)), (1, vi x1)]) C dX13_walksFrom_86 (Nat.le_of_ble_eq_true rfl) 3 rfl rfl ?_
          refine T_goto (pc := 89) C 25 dX13_walksFrom_89 rfl ?_
          refine T_sub (L' := [(0, .ref (ad 0)), (1, vi x1), (2, vi v24), (3, vi (x3 + 1))]) [2, 3, 1, 0] rfl ?_
          exact ih v23.1 v24 (x3 + 1) hv24 (rng_inc c11 h3 r10)
def f_X13_walksFrom (N : Nat) (σ : Sm) (x1 : Int) : Option (Sm × Int) :=
  (f_X13_isOpen σ x1).bind fun v1 => (if v1 = 0 then some (σ, 0) else if 0 ≤ x1 ∧ x1 < 10 then (if (σ 5 x1.toNat) = 1000000000 then some (σ, 0) else (f_X13_walksFrom_25 x1 N σ 0 0).bind fun q25 => some (q25.1, q25.2)) else none)
theorem ct_X13_walksFrom {l : Launch} {cy : ClassId} {ad : Nat → Nat} {G : va_G} (N : Nat) (σ : Sm) (x1 : Int) (h1 : rng x1) (hw : wfm σ) (o : Sm × Int) (h : f_X13_walksFrom N σ x1 = some o) : CtI l yX13_walksFrom cX13_walksFrom 4 (some .boolean) rm_X13_walksFrom (wlm cy ad) wfm G (tym cy) [.ref (ad 0), vi x1] σ o.1 o.2 := by
  refine ctI_of (by decide) (Nat.le_of_ble_eq_true rfl) hw o o h (fun X Y w => EndI X Y cX13_walksFrom rm_X13_walksFrom .boolean w) (fun _ _ h => h) (fun X A Q hX C => ?_)
  replace C : Cx X (Ym cy ad G A 4 Q) cX13_walksFrom RX13 (some .boolean) rm_X13_walksFrom (tym cy) := C
  show T X (Ym cy ad G A 4 Q) (fun w => EndI X (Ym cy ad G A 4 Q) cX13_walksFrom rm_X13_walksFrom .boolean w) 0 0 0 [(0, .ref (ad 0)), (1, vi x1)] [] σ (f_X13_walksFrom N σ x1)
  unfold f_X13_walksFrom
  refine T_aload_n (pc := 0) C dX13_walksFrom_0 rfl 0 rfl ?_
  refine T_iload_n (pc := 1) C dX13_walksFrom_1 rfl 1 rfl ?_
  refine T_callVip (pc := 2) C [vi x1] [] (fun o h9 hw => ct_X13_isOpen σ x1 h1 hw o h9) kw_325 cm_X13_isOpen rcm rfl rfl (Nat.le_of_ble_eq_true rfl) (by decide) (a' := 0) (b' := 0) ⟨rfl, rfl⟩ dX13_walksFrom_2 (fun v1 hv1 => ?_)
  refine T_if_eq (pc := 5) C 19 dX13_walksFrom_5 rfl hv1.1 (fun c2 => ?_) (fun c2 => ?_)
  · refine T_iconst (pc := 19) C dX13_walksFrom_19 ?_
    exact T_iret (pc := 20) (σ, 0) (fun h9 => h9) (rngL rfl) (nar_Z (Or.inl rfl)) (by decide) dX13_walksFrom_20
  · refine T_aload_n (pc := 8) C dX13_walksFrom_8 rfl 0 rfl ?_
    refine Tm_getA (pc := 9) C 4 5 (by decide) (fun _ => rfl) kw_353 rfl dX13_walksFrom_9 ?_
    refine T_iload_n (pc := 12) C dX13_walksFrom_12 rfl 1 rfl ?_
    refine T_guard (fun g3 => ?_)
    refine Tm_iald (pc := 13) C 5 x1.toNat ⟨by decide, by decide⟩ g3 rfl dX13_walksFrom_13 (fun r4 => ?_)
    refine T_ldc (pc := 14) C 1000000000 dX13_walksFrom_14 kw_357 (by decide) ?_
    refine T_icmp_ne (pc := 16) C 21 dX13_walksFrom_16 rfl r4 (rngL rfl) (fun c5 => ?_) (fun c5 => ?_)
    · refine T_iconst (pc := 21) C dX13_walksFrom_21 ?_
      refine T_istore_n (pc := 22) (L' := [(2, vi 0), (0, .ref (ad 0)), (1, vi x1)]) C dX13_walksFrom_22 rfl (Nat.le_of_ble_eq_true rfl) rfl ?_
      refine T_iconst (pc := 23) C dX13_walksFrom_23 ?_
      refine T_istore_n (pc := 24) (L' := [(3, vi 0), (2, vi 0), (0, .ref (ad 0)), (1, vi x1)]) C dX13_walksFrom_24 rfl (Nat.le_of_ble_eq_true rfl) rfl ?_
      refine T_sub (L' := [(0, .ref (ad 0)), (1, vi x1), (2, vi 0), (3, vi 0)]) [2, 3, 1, 0] rfl ?_
      refine T_loopE (lp_X13_walksFrom_25 C x1 h1 N σ 0 0 (Or.inl rfl) (rngL rfl)) (fun q25 hq25 => ?_)
      refine T_iload_n (pc := 92) C dX13_walksFrom_92 rfl 0 rfl ?_
      exact T_iret (pc := 93) (q25.1, q25.2) (fun h9 => h9) (bit_rng hq25) (nar_Z hq25) (by decide) dX13_walksFrom_93
    · refine T_iconst (pc := 19) C dX13_walksFrom_19 ?_
      exact T_iret (pc := 20) (σ, 0) (fun h9 => h9) (rngL rfl) (nar_Z (Or.inl rfl)) (by decide) dX13_walksFrom_20

abbrev rm_X13_improves : Room := ⟨5, 0, 0, 118⟩
theorem cm_X13_improves : cmV yX13_improves cX13_improves 4 (some .boolean) 0 := ⟨kw_81, kw_145, ⟨by decide +kernel, by decide +kernel, by decide +kernel⟩, kw_365, kw_366⟩
def f_X13_improves_27 (N : Nat) (x2 : Int) : Nat → Sm → Int → Int → Option (Sm × Int)
  | 0, _, _, _ => none
  | n + 1, s0, x1, x3 => (f_X13_l s0 x2 5).bind fun v22 => (if v22 ≤ x3 then some (s0, x1) else (f_X13_ridesFrom N s0 x2 x3).bind fun v24 => bl (ior x1 v24.2) fun v25 => f_X13_improves_27 N x2 n v24.1 v25 (x3 + 1))
theorem lp_X13_improves_27 {X : vjX} {A : Nat → Prop} {Q : State → Prop} {cy : ClassId} {ad : Nat → Nat} {G : va_G} (C : Cx X (Ym cy ad G A 4 Q) cX13_improves RX13 (some .boolean) rm_X13_improves (tym cy)) (N : Nat) (x2 : Int) (h2 : rng x2) : ∀ (n : Nat) (s0 : Sm) (x1 : Int) (x3 : Int) (h1 : bit x1) (h3 : rng x3), T X (Ym cy ad G A 4 Q) (fun (q : Sm × Int) => bit q.2 → J X (Ym cy ad G A 4 Q) 0 0 52 [(0, .ref (ad 0)), (1, vi q.2), (2, vi x2)] [] q.1) 0 0 27 [(0, .ref (ad 0)), (1, vi x1), (2, vi x2), (3, vi x3)] [] s0 (f_X13_improves_27 N x2 n s0 x1 x3) := by
  intro n
  induction n with
  | zero => intro s0 x1 x3 h1 h3; exact T_none
  | succ n ih =>
    intro s0 x1 x3 h1 h3
    rw [f_X13_improves_27]
    refine T_iload_n (pc := 27) C dX13_improves_27 rfl 3 rfl ?_
    refine T_aload_n (pc := 28) C dX13_improves_28 rfl 0 rfl ?_
    refine T_iload_n (pc := 29) C dX13_improves_29 rfl 2 rfl ?_
    refine T_iconst (pc := 30) C dX13_improves_30 ?_
    refine T_callVip (pc := 31) C [vi x2, vi 5] [vi x3] (fun o h9 hw => ct_X13_l s0 x2 5 h2 (rngL rfl) hw o h9) kw_211 cm_X13_l rcm rfl rfl (Nat.le_of_ble_eq_true rfl) (by decide) (a' := 0) (b' := 0) ⟨rfl, rfl⟩ dX13_improves_31 (fun v22 hv22 => ?_)
    refine T_icmp_ge (pc := 34) C 52 dX13_improves_34 rfl h3 hv22.1 (fun c23 => ?_) (fun c23 => ?_)
    · refine T_sub (L' := [(0, .ref (ad 0)), (1, vi x1), (2, vi x2)]) [0, 1, 2] rfl ?_
      exact T_exit (fun h9 => h9 h1)
    · refine T_iload_n (pc := 37) C dX13_improves_37 rfl 1 rfl ?_
      refine T_aload_n (pc := 38) C dX13_improves_38 rfl 0 rfl ?_
      refine T_iload_n (pc := 39) C dX13_improves_39 rfl 2 rfl ?_
      refine T_iload_n (pc := 40) C dX13_improves_40 rfl 3 rfl ?_
      refine T_callVi (pc := 41) C [vi x2, vi x3] [vi x1] (fun o h9 hw => ct_X13_ridesFrom N s0 x2 x3 h2 h3 hw o h9) kw_363 cm_X13_ridesFrom rcm rfl rfl (Nat.le_of_ble_eq_true rfl) (by decide) (a' := 0) (b' := 0) ⟨rfl, rfl⟩ dX13_improves_41 (fun v24 hv24 => ?_)
      refine T_ior (pc := 44) C (bit_nn h1) (bit_nn (bit_of_nar hv24)) dX13_improves_44 ?_
      refine T_blB (bit_or h1 (bit_of_nar hv24)) (fun v25 hv25 => ?_)
      refine T_istore_n (pc := 45) (L' := [(1, vi v25), (0, .ref (ad 0)), (2, vi x2), (3, vi x3)]) C dX13_improves_45 rfl (Nat.le_of_ble_eq_true rfl) rfl ?_
      refine T_iinc (pc := 46) (L' := [(3, vi (x3 + 1)), (1, vi v25), (0, .ref (ad 0)), (2, vi x2)]) C dX13_improves_46 (Nat.le_of_ble_eq_true rfl) 3 rfl rfl ?_
      refine T_goto (pc := 49) C 27 dX13_improves_49 rfl ?_
      refine T_sub (L' := [(0, .ref (ad 0)), (1, vi v25), (2, vi x2), (3, vi (x3 + 1))]) [2, 1, 3, 0] rfl ?_
      exact ih v24.1 v25 (x3 + 1) hv25 (rng_inc c23 h3 hv22.1)
def f_X13_improves_4 (N : Nat) : Nat → Sm → Int → Int → Option (Sm × Int)
  | 0, _, _, _ => none
  | n + 1, s0, x1, x2 => (if (s0 1 2) ≤ x2 then some (s0, x1) else (f_X13_isRunning s0 x2).bind fun v16 => (if v16 = 0 then f_X13_improves_4 N n s0 x1 (x2 + 1) else (f_X13_improves_27 N x2 N s0 x1 0).bind fun q26 => f_X13_improves_4 N n q26.1 q26.2 (x2 + 1)))
theorem lp_X13_improves_4 {X : vjX} {A : Nat → Prop} {Q : State → Prop} {cy : ClassId} {ad : Nat → Nat} {G : va_G} (C : Cx X (Ym cy ad G A 4 Q) cX13_improves RX13 (some .boolean) rm_X13_improves (tym cy)) (N : Nat) : ∀ (n : Nat) (s0 : Sm) (x1 : Int) (x2 : Int) (h1 : bit x1) (h2 : rng x2), T X (Ym cy ad G A 4 Q) (fun (q : Sm × Int) => bit q.2 → J X (Ym cy ad G A 4 Q) 0 0 58 [(0, .ref (ad 0)), (1, vi q.2)] [] q.1) 0 0 4 [(0, .ref (ad 0)), (1, vi x1), (2, vi x2)] [] s0 (f_X13_improves_4 N n s0 x1 x2) := by
  intro n
  induction n with
  | zero => intro s0 x1 x2 h1 h2; exact T_none
  | succ n ih =>
    intro s0 x1 x2 h1 h2
    rw [f_X13_improves_4]
    refine T_iload_n (pc := 4) C dX13_improves_4 rfl 2 rfl ?_
    refine T_aload_n (pc := 5) C dX13_improves_5 rfl 0 rfl ?_
    refine Tm_getA (pc := 6) C 0 1 (by decide) (fun _ => rfl) kw_152 rfl dX13_improves_6 ?_
    refine T_iconst (pc := 9) C dX13_improves_9 ?_
    refine Tm_iald (pc := 10) C 1 2 ⟨by decide, by decide⟩ ⟨by decide, by decide⟩ rfl dX13_improves_10 (fun r14 => ?_)
    refine T_icmp_ge (pc := 11) C 58 dX13_improves_11 rfl h2 r14 (fun c15 => ?_) (fun c15 => ?_)
    · refine T_sub (L' := [(0, .ref (ad 0)), (1, vi x1)]) [0, 1] rfl ?_
      exact T_exit (fun h9 => h9 h1)
    · refine T_aload_n (pc := 14) C dX13_improves_14 rfl 0 rfl ?_
      refine T_iload_n (pc := 15) C dX13_improves_15 rfl 2 rfl ?_
      refine T_callVip (pc := 16) C [vi x2] [] (fun o h9 hw => ct_X13_isRunning s0 x2 h2 hw o h9) kw_283 cm_X13_isRunning rcm rfl rfl (Nat.le_of_ble_eq_true rfl) (by decide) (a' := 0) (b' := 0) ⟨rfl, rfl⟩ dX13_improves_16 (fun v16 hv16 => ?_)
      refine T_if_ne (pc := 19) C 25 dX13_improves_19 rfl hv16.1 (fun c17 => ?_) (fun c17 => ?_)
      · refine T_iconst (pc := 25) C dX13_improves_25 ?_
        refine T_istore_n (pc := 26) (L' := [(3, vi 0), (0, .ref (ad 0)), (1, vi x1), (2, vi x2)]) C dX13_improves_26 rfl (Nat.le_of_ble_eq_true rfl) rfl ?_
        refine T_sub (L' := [(0, .ref (ad 0)), (1, vi x1), (2, vi x2), (3, vi 0)]) [1, 2, 3, 0] rfl ?_
        refine T_loopE (lp_X13_improves_27 C N x2 h2 N s0 x1 0 h1 (rngL rfl)) (fun q26 hq26 => ?_)
        refine T_iinc (pc := 52) (L' := [(2, vi (x2 + 1)), (0, .ref (ad 0)), (1, vi q26.2)]) C dX13_improves_52 (Nat.le_of_ble_eq_true rfl) 2 rfl rfl ?_
        refine T_goto (pc := 55) C 4 dX13_improves_55 rfl ?_
        refine T_sub (L' := [(0, .ref (ad 0)), (1, vi q26.2), (2, vi (x2 + 1))]) [1, 2, 0] rfl ?_
        exact ih q26.1 q26.2 (x2 + 1) hq26 (rng_inc c15 h2 r14)
      · refine T_goto (pc := 22) C 52 dX13_improves_22 rfl ?_
        refine T_iinc (pc := 52) (L' := [(2, vi (x2 + 1)), (0, .ref (ad 0)), (1, vi x1)]) C dX13_improves_52 (Nat.le_of_ble_eq_true rfl) 2 rfl rfl ?_
        refine T_goto (pc := 55) C 4 dX13_improves_55 rfl ?_
        refine T_sub (L' := [(0, .ref (ad 0)), (1, vi x1), (2, vi (x2 + 1))]) [1, 2, 0] rfl ?_
        exact ih s0 x1 (x2 + 1) h1 (rng_inc c15 h2 r14)
def f_X13_improves_60 (N : Nat) : Nat → Sm → Int → Int → Option (Sm × Int)
  | 0, _, _, _ => none
  | n + 1, s0, x1, x2 => (if (s0 1 0) ≤ x2 then some (s0, x1) else (f_X13_walksFrom N s0 x2).bind fun v34 => bl (ior x1 v34.2) fun v35 => f_X13_improves_60 N n v34.1 v35 (x2 + 1))
theorem lp_X13_improves_60 {X : vjX} {A : Nat → Prop} {Q : State → Prop} {cy : ClassId} {ad : Nat → Nat} {G : va_G} (C : Cx X (Ym cy ad G A 4 Q) cX13_improves RX13 (some .boolean) rm_X13_improves (tym cy)) (N : Nat) : ∀ (n : Nat) (s0 : Sm) (x1 : Int) (x2 : Int) (h1 : bit x1) (h2 : rng x2), T X (Ym cy ad G A 4 Q) (fun (q : Sm × Int) => bit q.2 → J X (Ym cy ad G A 4 Q) 0 0 84 [(1, vi q.2)] [] q.1) 0 0 60 [(0, .ref (ad 0)), (1, vi x1), (2, vi x2)] [] s0 (f_X13_improves_60 N n s0 x1 x2) := by
  intro n
  induction n with
  | zero => intro s0 x1 x2 h1 h2; exact T_none
  | succ n ih =>
    intro s0 x1 x2 h1 h2
    rw [f_X13_improves_60]
    refine T_iload_n (pc := 60) C dX13_improves_60 rfl 2 rfl ?_
    refine T_aload_n (pc := 61) C dX13_improves_61 rfl 0 rfl ?_
    refine Tm_getA (pc := 62) C 0 1 (by decide) (fun _ => rfl) kw_152 rfl dX13_improves_62 ?_
    refine T_iconst (pc := 65) C dX13_improves_65 ?_
    refine Tm_iald (pc := 66) C 1 0 ⟨by decide, by decide⟩ ⟨by decide, by decide⟩ rfl dX13_improves_66 (fun r32 => ?_)
    refine T_icmp_ge (pc := 67) C 84 dX13_improves_67 rfl h2 r32 (fun c33 => ?_) (fun c33 => ?_)
    · refine T_sub (L' := [(1, vi x1)]) [1] rfl ?_
      exact T_exit (fun h9 => h9 h1)
    · refine T_iload_n (pc := 70) C dX13_improves_70 rfl 1 rfl ?_
      refine T_aload_n (pc := 71) C dX13_improves_71 rfl 0 rfl ?_
      refine T_iload_n (pc := 72) C dX13_improves_72 rfl 2 rfl ?_
      refine T_callVi (pc := 73) C [vi x2] [vi x1] (fun o h9 hw => ct_X13_walksFrom N s0 x2 h2 hw o h9) kw_364 cm_X13_walksFrom rcm rfl rfl (Nat.le_of_ble_eq_true rfl) (by decide) (a' := 0) (b' := 0) ⟨rfl, rfl⟩ dX13_improves_73 (fun v34 hv34 => ?_)
      refine T_ior (pc := 76) C (bit_nn h1) (bit_nn (bit_of_nar hv34)) dX13_improves_76 ?_
      refine T_blB (bit_or h1 (bit_of_nar hv34)) (fun v35 hv35 => ?_)
      refine T_istore_n (pc := 77) (L' := [(1, vi v35), (0, .ref (ad 0)), (2, vi x2)]) C dX13_improves_77 rfl (Nat.le_of_ble_eq_true rfl) rfl ?_
      refine T_iinc (pc := 78) (L' := [(2, vi (x2 + 1)), (1, vi v35), (0, .ref (ad 0))]) C dX13_improves_78 (Nat.le_of_ble_eq_true rfl) 2 rfl rfl ?_
      refine T_goto (pc := 81) C 60 dX13_improves_81 rfl ?_
      refine T_sub (L' := [(0, .ref (ad 0)), (1, vi v35), (2, vi (x2 + 1))]) [2, 1, 0] rfl ?_
      exact ih v34.1 v35 (x2 + 1) hv35 (rng_inc c33 h2 r32)
def f_X13_improves (N : Nat) (σ : Sm) : Option (Sm × Int) :=
  (f_X13_improves_4 N N σ 0 0).bind fun q27 => (f_X13_improves_60 N N q27.1 q27.2 0).bind fun q36 => some (q36.1, q36.2)
theorem ct_X13_improves {l : Launch} {cy : ClassId} {ad : Nat → Nat} {G : va_G} (N : Nat) (σ : Sm) (hw : wfm σ) (o : Sm × Int) (h : f_X13_improves N σ = some o) : CtI l yX13_improves cX13_improves 4 (some .boolean) rm_X13_improves (wlm cy ad) wfm G (tym cy) [.ref (ad 0)] σ o.1 o.2 := by
  refine ctI_of (by decide) (Nat.le_of_ble_eq_true rfl) hw o o h (fun X Y w => EndI X Y cX13_improves rm_X13_improves .boolean w) (fun _ _ h => h) (fun X A Q hX C => ?_)
  replace C : Cx X (Ym cy ad G A 4 Q) cX13_improves RX13 (some .boolean) rm_X13_improves (tym cy) := C
  show T X (Ym cy ad G A 4 Q) (fun w => EndI X (Ym cy ad G A 4 Q) cX13_improves rm_X13_improves .boolean w) 0 0 0 [(0, .ref (ad 0))] [] σ (f_X13_improves N σ)
  unfold f_X13_improves
  refine T_iconst (pc := 0) C dX13_improves_0 ?_
  refine T_istore_n (pc := 1) (L' := [(1, vi 0), (0, .ref (ad 0))]) C dX13_improves_1 rfl (Nat.le_of_ble_eq_true rfl) rfl ?_
  refine T_iconst (pc := 2) C dX13_improves_2 ?_
  refine T_istore_n (pc := 3) (L' := [(2, vi 0), (1, vi 0), (0, .ref (ad 0))]) C dX13_improves_3 rfl (Nat.le_of_ble_eq_true rfl) rfl ?_
  refine T_sub (L' := [(0, .ref (ad 0)), (1, vi 0), (2, vi 0)]) [2, 1, 0] rfl ?_
  refine T_loopE (lp_X13_improves_4 C N N σ 0 0 (Or.inl rfl) (rngL rfl)) (fun q27 hq27 => ?_)
  refine T_iconst (pc := 58) C dX13_improves_58 ?_
  refine T_istore_n (pc := 59) (L' := [(2, vi 0), (0, .ref (ad 0)), (1, vi q27.2)]) C dX13_improves_59 rfl (Nat.le_of_ble_eq_true rfl) rfl ?_
  refine T_sub (L' := [(0, .ref (ad 0)), (1, vi q27.2), (2, vi 0)]) [1, 2, 0] rfl ?_
  refine T_loopE (lp_X13_improves_60 C N N q27.1 q27.2 0 hq27 (rngL rfl)) (fun q36 hq36 => ?_)
  refine T_iload_n (pc := 84) C dX13_improves_84 rfl 0 rfl ?_
  exact T_iret (pc := 85) (q36.1, q36.2) (fun h9 => h9) (bit_rng hq36) (nar_Z hq36) (by decide) dX13_improves_85

abbrev rm_X13_arrival : Room := ⟨6, 0, 0, 141⟩
theorem cm_X13_arrival : cmV yX13_arrival cX13_arrival 5 (some .int) 3 := ⟨kw_82, kw_145, ⟨by decide +kernel, by decide +kernel, by decide +kernel⟩, kw_368, kw_369⟩
def f_X13_arrival_74 (x1 : Int) (x2 : Int) (x3 : Int) : Nat → Sm → Int → Option (Sm)
  | 0, _, _ => none
  | n + 1, s0, x4 => (if 10 ≤ x4 then some s0 else if 0 ≤ x4 ∧ x4 < 10 then bl (upm s0 5 x4.toNat 1000000000) fun s20 => bl (upm s20 6 x4.toNat 1000000000) fun s21 => f_X13_arrival_74 x1 x2 x3 n s21 (x4 + 1) else none)
theorem lp_X13_arrival_74 {X : vjX} {A : Nat → Prop} {Q : State → Prop} {cy : ClassId} {ad : Nat → Nat} {G : va_G} (C : Cx X (Ym cy ad G A 5 Q) cX13_arrival RX13 (some .int) rm_X13_arrival (tym cy)) (x1 : Int) (x2 : Int) (x3 : Int) (h1 : rng x1) (h2 : rng x2) (h3 : rng x3) : ∀ (n : Nat) (s0 : Sm) (x4 : Int) (h4 : rng x4), T X (Ym cy ad G A 5 Q) (fun (q : Sm) => True → J X (Ym cy ad G A 5 Q) 0 0 105 [(0, .ref (ad 0)), (1, vi x1), (2, vi x2), (3, vi x3)] [] q) 0 0 74 [(0, .ref (ad 0)), (1, vi x1), (2, vi x2), (3, vi x3), (4, vi x4)] [] s0 (f_X13_arrival_74 x1 x2 x3 n s0 x4) := by
  intro n
  induction n with
  | zero => intro s0 x4 h4; exact T_none
  | succ n ih =>
    intro s0 x4 h4
    rw [f_X13_arrival_74]
    refine T_iload (pc := 74) C dX13_arrival_74 4 rfl ?_
    refine T_bipush (pc := 76) C dX13_arrival_76 (by decide) ?_
    refine T_icmp_ge (pc := 78) C 105 dX13_arrival_78 rfl h4 (rngL rfl) (fun c18 => ?_) (fun c18 => ?_)
    · refine T_sub (L' := [(0, .ref (ad 0)), (1, vi x1), (2, vi x2), (3, vi x3)]) [0, 1, 2, 3] rfl ?_
      exact T_exit (fun h9 => h9 trivial)
    · refine T_aload_n (pc := 81) C dX13_arrival_81 rfl 0 rfl ?_
      refine Tm_getA (pc := 82) C 4 5 (by decide) (fun _ => rfl) kw_353 rfl dX13_arrival_82 ?_
      refine T_iload (pc := 85) C dX13_arrival_85 4 rfl ?_
      refine T_ldc (pc := 87) C 1000000000 dX13_arrival_87 kw_357 (by decide) ?_
      refine T_guard (fun g19 => ?_)
      refine Tm_iast (pc := 89) C 5 x4.toNat ⟨by decide, by decide⟩ g19 rfl (rngL rfl) dX13_arrival_89 ?_
      refine T_blS (fun s20 => ?_)
      refine T_aload_n (pc := 90) C dX13_arrival_90 rfl 0 rfl ?_
      refine Tm_getA (pc := 91) C 5 6 (by decide) (fun _ => rfl) kw_354 rfl dX13_arrival_91 ?_
      refine T_iload (pc := 94) C dX13_arrival_94 4 rfl ?_
      refine T_ldc (pc := 96) C 1000000000 dX13_arrival_96 kw_357 (by decide) ?_
      refine Tm_iast (pc := 98) C 6 x4.toNat ⟨by decide, by decide⟩ g19 rfl (rngL rfl) dX13_arrival_98 ?_
      refine T_blS (fun s21 => ?_)
      refine T_iinc (pc := 99) (L' := [(4, vi (x4 + 1)), (0, .ref (ad 0)), (1, vi x1), (2, vi x2), (3, vi x3)]) C dX13_arrival_99 (Nat.le_of_ble_eq_true rfl) 4 rfl rfl ?_
      refine T_goto (pc := 102) C 74 dX13_arrival_102 rfl ?_
      refine T_sub (L' := [(0, .ref (ad 0)), (1, vi x1), (2, vi x2), (3, vi x3), (4, vi (x4 + 1))]) [1, 2, 3, 4, 0] rfl ?_
      exact ih s21 (x4 + 1) (rng_inc c18 h4 (rngL rfl))
def f_X13_arrival_122 (N : Nat) (x2 : Int) : Nat → Sm → Int → Option (Sm)
  | 0, _, _ => none
  | n + 1, s0, x4 => (if x4 = 0 then some s0 else (f_X13_improves N s0).bind fun v27 => f_X13_arrival_122 N x2 n v27.1 v27.2)
theorem lp_X13_arrival_122 {X : vjX} {A : Nat → Prop} {Q : State → Prop} {cy : ClassId} {ad : Nat → Nat} {G : va_G} (C : Cx X (Ym cy ad G A 5 Q) cX13_arrival RX13 (some .int) rm_X13_arrival (tym cy)) (N : Nat) (x2 : Int) (h2 : rng x2) : ∀ (n : Nat) (s0 : Sm) (x4 : Int) (h4 : bit x4), T X (Ym cy ad G A 5 Q) (fun (q : Sm) => True → J X (Ym cy ad G A 5 Q) 0 0 136 [(0, .ref (ad 0)), (2, vi x2)] [] q) 0 0 122 [(0, .ref (ad 0)), (2, vi x2), (4, vi x4)] [] s0 (f_X13_arrival_122 N x2 n s0 x4) := by
  intro n
  induction n with
  | zero => intro s0 x4 h4; exact T_none
  | succ n ih =>
    intro s0 x4 h4
    rw [f_X13_arrival_122]
    refine T_iload (pc := 122) C dX13_arrival_122 2 rfl ?_
    refine T_if_eq (pc := 124) C 136 dX13_arrival_124 rfl (bit_rng h4) (fun c26 => ?_) (fun c26 => ?_)
    · refine T_sub (L' := [(0, .ref (ad 0)), (2, vi x2)]) [0, 1] rfl ?_
      exact T_exit (fun h9 => h9 trivial)
    · refine T_aload_n (pc := 127) C dX13_arrival_127 rfl 0 rfl ?_
      refine T_callVi (pc := 128) C [] [] (fun o h9 hw => ct_X13_improves N s0 hw o h9) kw_367 cm_X13_improves rcm rfl rfl (Nat.le_of_ble_eq_true rfl) (by decide) (a' := 0) (b' := 0) ⟨rfl, rfl⟩ dX13_arrival_128 (fun v27 hv27 => ?_)
      refine T_istore (pc := 131) (L' := [(4, vi v27.2), (0, .ref (ad 0)), (2, vi x2)]) C dX13_arrival_131 (Nat.le_of_ble_eq_true rfl) rfl ?_
      refine T_goto (pc := 133) C 122 dX13_arrival_133 rfl ?_
      refine T_sub (L' := [(0, .ref (ad 0)), (2, vi x2), (4, vi v27.2)]) [1, 2, 0] rfl ?_
      exact ih v27.1 v27.2 (bit_of_nar hv27)
def f_X13_arrival (N : Nat) (σ : Sm) (x1 : Int) (x2 : Int) (x3 : Int) : Option (Sm × Int) :=
  (f_X13_areStops σ x1 x2).bind fun v1 => (if v1 = 0 then bl (upm σ 11 0 1) fun s55 => (if (s55 11 0) ≤ 0 then (if x1 = x2 then some (s55, x3) else (f_X13_isOpen s55 x1).bind fun v59 => (if v59 = 0 then (f_X13_fail s55 3).bind fun v61 => some (v61.1, v61.2) else (f_X13_isOpen s55 x2).bind fun v62 => (if v62 = 0 then (f_X13_fail s55 3).bind fun v74 => some (v74.1, v74.2) else (f_X13_arrival_74 x1 x2 x3 N s55 0).bind fun q64 => if 0 ≤ x1 ∧ x1 < 10 then bl (upm q64 5 x1.toNat x3) fun s66 => bl (upm s66 6 x1.toNat x3) fun s67 => (f_X13_arrival_122 N x2 N s67 1).bind fun q68 => if 0 ≤ x2 ∧ x2 < 10 then (if (q68 5 x2.toNat) = 1000000000 then (f_X13_fail q68 3).bind fun v73 => some (v73.1, v73.2) else some (q68, (q68 5 x2.toNat))) else none else none))) else some (s55, 0)) else (f_X13_in x3 0 9999).bind fun v3 => (if v3 = 0 then bl (upm σ 11 0 2) fun s35 => (if (s35 11 0) ≤ 0 then (if x1 = x2 then some (s35, x3) else (f_X13_isOpen s35 x1).bind fun v39 => (if v39 = 0 then (f_X13_fail s35 3).bind fun v41 => some (v41.1, v41.2) else (f_X13_isOpen s35 x2).bind fun v42 => (if v42 = 0 then (f_X13_fail s35 3).bind fun v54 => some (v54.1, v54.2) else (f_X13_arrival_74 x1 x2 x3 N s35 0).bind fun q44 => if 0 ≤ x1 ∧ x1 < 10 then bl (upm q44 5 x1.toNat x3) fun s46 => bl (upm s46 6 x1.toNat x3) fun s47 => (f_X13_arrival_122 N x2 N s47 1).bind fun q48 => if 0 ≤ x2 ∧ x2 < 10 then (if (q48 5 x2.toNat) = 1000000000 then (f_X13_fail q48 3).bind fun v53 => some (v53.1, v53.2) else some (q48, (q48 5 x2.toNat))) else none else none))) else some (s35, 0)) else bl (upm σ 11 0 0) fun s5 => (if (s5 11 0) ≤ 0 then (if x1 = x2 then some (s5, x3) else (f_X13_isOpen s5 x1).bind fun v9 => (if v9 = 0 then (f_X13_fail s5 3).bind fun v11 => some (v11.1, v11.2) else (f_X13_isOpen s5 x2).bind fun v12 => (if v12 = 0 then (f_X13_fail s5 3).bind fun v34 => some (v34.1, v34.2) else (f_X13_arrival_74 x1 x2 x3 N s5 0).bind fun q22 => if 0 ≤ x1 ∧ x1 < 10 then bl (upm q22 5 x1.toNat x3) fun s24 => bl (upm s24 6 x1.toNat x3) fun s25 => (f_X13_arrival_122 N x2 N s25 1).bind fun q28 => if 0 ≤ x2 ∧ x2 < 10 then (if (q28 5 x2.toNat) = 1000000000 then (f_X13_fail q28 3).bind fun v33 => some (v33.1, v33.2) else some (q28, (q28 5 x2.toNat))) else none else none))) else some (s5, 0))))
theorem ct_X13_arrival {l : Launch} {cy : ClassId} {ad : Nat → Nat} {G : va_G} (N : Nat) (σ : Sm) (x1 : Int) (x2 : Int) (x3 : Int) (h1 : rng x1) (h2 : rng x2) (h3 : rng x3) (hw : wfm σ) (o : Sm × Int) (h : f_X13_arrival N σ x1 x2 x3 = some o) : CtI l yX13_arrival cX13_arrival 5 (some .int) rm_X13_arrival (wlm cy ad) wfm G (tym cy) [.ref (ad 0), vi x1, vi x2, vi x3] σ o.1 o.2 := by
  refine ctI_of (by decide) (Nat.le_of_ble_eq_true rfl) hw o o h (fun X Y w => EndI X Y cX13_arrival rm_X13_arrival .int w) (fun _ _ h => h) (fun X A Q hX C => ?_)
  replace C : Cx X (Ym cy ad G A 5 Q) cX13_arrival RX13 (some .int) rm_X13_arrival (tym cy) := C
  show T X (Ym cy ad G A 5 Q) (fun w => EndI X (Ym cy ad G A 5 Q) cX13_arrival rm_X13_arrival .int w) 0 0 0 [(0, .ref (ad 0)), (1, vi x1), (2, vi x2), (3, vi x3)] [] σ (f_X13_arrival N σ x1 x2 x3)
  unfold f_X13_arrival
  refine T_aload_n (pc := 0) C dX13_arrival_0 rfl 0 rfl ?_
  refine T_aload_n (pc := 1) C dX13_arrival_1 rfl 0 rfl ?_
  refine T_iload_n (pc := 2) C dX13_arrival_2 rfl 1 rfl ?_
  refine T_iload_n (pc := 3) C dX13_arrival_3 rfl 2 rfl ?_
  refine T_callVip (pc := 4) C [vi x1, vi x2] [.ref (ad 0)] (fun o h9 hw => ct_X13_areStops σ x1 x2 h1 h2 hw o h9) kw_184 cm_X13_areStops rcm rfl rfl (Nat.le_of_ble_eq_true rfl) (by decide) (a' := 0) (b' := 0) ⟨rfl, rfl⟩ dX13_arrival_4 (fun v1 hv1 => ?_)
  refine T_if_ne (pc := 7) C 14 dX13_arrival_7 rfl hv1.1 (fun c2 => ?_) (fun c2 => ?_)
  · refine T_iload_n (pc := 14) C dX13_arrival_14 rfl 3 rfl ?_
    refine T_iconst (pc := 15) C dX13_arrival_15 ?_
    refine T_sipush (pc := 16) C dX13_arrival_16 (by decide) ?_
    refine T_callSip (pc := 19) C [vi x3, vi 0, vi 9999] [.ref (ad 0)] (fun o h9 hw => ct_X13_in σ x3 0 9999 h3 (rngL rfl) (rngL rfl) hw o h9) kw_161 cm_X13_in rfl rfl (Nat.le_of_ble_eq_true rfl) (by decide) (a' := 0) (b' := 0) ⟨rfl, rfl⟩ dX13_arrival_19 (fun v3 hv3 => ?_)
    refine T_if_ne (pc := 22) C 29 dX13_arrival_22 rfl hv3.1 (fun c4 => ?_) (fun c4 => ?_)
    · refine T_iconst (pc := 29) C dX13_arrival_29 ?_
      refine Tm_put (pc := 30) C (ty := .int) 11 ⟨by decide, by decide⟩ (rngL rfl) kw_144 rfl (nar_I _) (fit_I _) dX13_arrival_30 ?_
      refine T_blS (fun s5 => ?_)
      refine T_aload_n (pc := 33) C dX13_arrival_33 rfl 0 rfl ?_
      refine Tm_get (pc := 34) C 11 ⟨by decide, by decide⟩ kw_144 dX13_arrival_34 (fun r6 => ?_)
      refine T_if_le (pc := 37) C 42 dX13_arrival_37 rfl r6 (fun c7 => ?_) (fun c7 => ?_)
      · refine T_iload_n (pc := 42) C dX13_arrival_42 rfl 1 rfl ?_
        refine T_iload_n (pc := 43) C dX13_arrival_43 rfl 2 rfl ?_
        refine T_icmp_ne (pc := 44) C 49 dX13_arrival_44 rfl h1 h2 (fun c8 => ?_) (fun c8 => ?_)
        · refine T_aload_n (pc := 49) C dX13_arrival_49 rfl 0 rfl ?_
          refine T_iload_n (pc := 50) C dX13_arrival_50 rfl 1 rfl ?_
          refine T_callVip (pc := 51) C [vi x1] [] (fun o h9 hw => ct_X13_isOpen s5 x1 h1 hw o h9) kw_325 cm_X13_isOpen rcm rfl rfl (Nat.le_of_ble_eq_true rfl) (by decide) (a' := 0) (b' := 0) ⟨rfl, rfl⟩ dX13_arrival_51 (fun v9 hv9 => ?_)
          refine T_if_eq (pc := 54) C 65 dX13_arrival_54 rfl hv9.1 (fun c10 => ?_) (fun c10 => ?_)
          · refine T_aload_n (pc := 65) C dX13_arrival_65 rfl 0 rfl ?_
            refine T_iconst (pc := 66) C dX13_arrival_66 ?_
            refine T_callVi (pc := 67) C [vi 3] [] (fun o h9 hw => ct_X13_fail s5 3 (rngL rfl) hw o h9) kw_181 cm_X13_fail rcm rfl rfl (Nat.le_of_ble_eq_true rfl) (by decide) (a' := 0) (b' := 0) ⟨rfl, rfl⟩ dX13_arrival_67 (fun v11 hv11 => ?_)
            exact T_iret (pc := 70) (v11.1, v11.2) (fun h9 => h9) hv11.1 (nar_I _) (by decide) dX13_arrival_70
          · refine T_aload_n (pc := 57) C dX13_arrival_57 rfl 0 rfl ?_
            refine T_iload_n (pc := 58) C dX13_arrival_58 rfl 2 rfl ?_
            refine T_callVip (pc := 59) C [vi x2] [] (fun o h9 hw => ct_X13_isOpen s5 x2 h2 hw o h9) kw_325 cm_X13_isOpen rcm rfl rfl (Nat.le_of_ble_eq_true rfl) (by decide) (a' := 0) (b' := 0) ⟨rfl, rfl⟩ dX13_arrival_59 (fun v12 hv12 => ?_)
            refine T_if_ne (pc := 62) C 71 dX13_arrival_62 rfl hv12.1 (fun c13 => ?_) (fun c13 => ?_)
            · refine T_iconst (pc := 71) C dX13_arrival_71 ?_
              refine T_istore (pc := 72) (L' := [(4, vi 0), (0, .ref (ad 0)), (1, vi x1), (2, vi x2), (3, vi x3)]) C dX13_arrival_72 (Nat.le_of_ble_eq_true rfl) rfl ?_
              refine T_sub (L' := [(0, .ref (ad 0)), (1, vi x1), (2, vi x2), (3, vi x3), (4, vi 0)]) [1, 2, 3, 4, 0] rfl ?_
              refine T_loopE (lp_X13_arrival_74 C x1 x2 x3 h1 h2 h3 N s5 0 (rngL rfl)) (fun q22 hq22 => ?_)
              refine T_aload_n (pc := 105) C dX13_arrival_105 rfl 0 rfl ?_
              refine Tm_getA (pc := 106) C 4 5 (by decide) (fun _ => rfl) kw_353 rfl dX13_arrival_106 ?_
              refine T_iload_n (pc := 109) C dX13_arrival_109 rfl 1 rfl ?_
              refine T_iload_n (pc := 110) C dX13_arrival_110 rfl 3 rfl ?_
              refine T_guard (fun g23 => ?_)
              refine Tm_iast (pc := 111) C 5 x1.toNat ⟨by decide, by decide⟩ g23 rfl h3 dX13_arrival_111 ?_
              refine T_blS (fun s24 => ?_)
              refine T_aload_n (pc := 112) C dX13_arrival_112 rfl 0 rfl ?_
              refine Tm_getA (pc := 113) C 5 6 (by decide) (fun _ => rfl) kw_354 rfl dX13_arrival_113 ?_
              refine T_iload_n (pc := 116) C dX13_arrival_116 rfl 1 rfl ?_
              refine T_iload_n (pc := 117) C dX13_arrival_117 rfl 3 rfl ?_
              refine Tm_iast (pc := 118) C 6 x1.toNat ⟨by decide, by decide⟩ g23 rfl h3 dX13_arrival_118 ?_
              refine T_blS (fun s25 => ?_)
              refine T_iconst (pc := 119) C dX13_arrival_119 ?_
              refine T_istore (pc := 120) (L' := [(4, vi 1), (0, .ref (ad 0)), (1, vi x1), (2, vi x2), (3, vi x3)]) C dX13_arrival_120 (Nat.le_of_ble_eq_true rfl) rfl ?_
              refine T_sub (L' := [(0, .ref (ad 0)), (2, vi x2), (4, vi 1)]) [1, 3, 0] rfl ?_
              refine T_loopE (lp_X13_arrival_122 C N x2 h2 N s25 1 (Or.inr rfl)) (fun q28 hq28 => ?_)
              refine T_aload_n (pc := 136) C dX13_arrival_136 rfl 0 rfl ?_
              refine Tm_getA (pc := 137) C 4 5 (by decide) (fun _ => rfl) kw_353 rfl dX13_arrival_137 ?_
              refine T_iload_n (pc := 140) C dX13_arrival_140 rfl 1 rfl ?_
              refine T_guard (fun g29 => ?_)
              refine Tm_iald (pc := 141) C 5 x2.toNat ⟨by decide, by decide⟩ g29 rfl dX13_arrival_141 (fun r30 => ?_)
              refine T_ldc (pc := 142) C 1000000000 dX13_arrival_142 kw_357 (by decide) ?_
              refine T_icmp_ne (pc := 144) C 155 dX13_arrival_144 rfl r30 (rngL rfl) (fun c31 => ?_) (fun c31 => ?_)
              · refine T_aload_n (pc := 155) C dX13_arrival_155 rfl 0 rfl ?_
                refine Tm_getA (pc := 156) C 4 5 (by decide) (fun _ => rfl) kw_353 rfl dX13_arrival_156 ?_
                refine T_iload_n (pc := 159) C dX13_arrival_159 rfl 1 rfl ?_
                refine Tm_iald (pc := 160) C 5 x2.toNat ⟨by decide, by decide⟩ g29 rfl dX13_arrival_160 (fun r32 => ?_)
                exact T_iret (pc := 161) (q28, (q28 5 x2.toNat)) (fun h9 => h9) r32 (nar_I _) (by decide) dX13_arrival_161
              · refine T_aload_n (pc := 147) C dX13_arrival_147 rfl 0 rfl ?_
                refine T_iconst (pc := 148) C dX13_arrival_148 ?_
                refine T_callVi (pc := 149) C [vi 3] [] (fun o h9 hw => ct_X13_fail q28 3 (rngL rfl) hw o h9) kw_181 cm_X13_fail rcm rfl rfl (Nat.le_of_ble_eq_true rfl) (by decide) (a' := 0) (b' := 0) ⟨rfl, rfl⟩ dX13_arrival_149 (fun v33 hv33 => ?_)
                refine T_goto (pc := 152) C 161 dX13_arrival_152 rfl ?_
                exact T_iret (pc := 161) (v33.1, v33.2) (fun h9 => h9) hv33.1 (nar_I _) (by decide) dX13_arrival_161
            · refine T_aload_n (pc := 65) C dX13_arrival_65 rfl 0 rfl ?_
              refine T_iconst (pc := 66) C dX13_arrival_66 ?_
              refine T_callVi (pc := 67) C [vi 3] [] (fun o h9 hw => ct_X13_fail s5 3 (rngL rfl) hw o h9) kw_181 cm_X13_fail rcm rfl rfl (Nat.le_of_ble_eq_true rfl) (by decide) (a' := 0) (b' := 0) ⟨rfl, rfl⟩ dX13_arrival_67 (fun v34 hv34 => ?_)
              exact T_iret (pc := 70) (v34.1, v34.2) (fun h9 => h9) hv34.1 (nar_I _) (by decide) dX13_arrival_70
        · refine T_iload_n (pc := 47) C dX13_arrival_47 rfl 3 rfl ?_
          exact T_iret (pc := 48) (s5, x3) (fun h9 => h9) h3 (nar_I _) (by decide) dX13_arrival_48
      · refine T_iconst (pc := 40) C dX13_arrival_40 ?_
        exact T_iret (pc := 41) (s5, 0) (fun h9 => h9) (rngL rfl) (nar_I _) (by decide) dX13_arrival_41
    · refine T_iconst (pc := 25) C dX13_arrival_25 ?_
      refine T_goto (pc := 26) C 30 dX13_arrival_26 rfl ?_
      refine Tm_put (pc := 30) C (ty := .int) 11 ⟨by decide, by decide⟩ (rngL rfl) kw_144 rfl (nar_I _) (fit_I _) dX13_arrival_30 ?_
      refine T_blS (fun s35 => ?_)
      refine T_aload_n (pc := 33) C dX13_arrival_33 rfl 0 rfl ?_
      refine Tm_get (pc := 34) C 11 ⟨by decide, by decide⟩ kw_144 dX13_arrival_34 (fun r36 => ?_)
      refine T_if_le (pc := 37) C 42 dX13_arrival_37 rfl r36 (fun c37 => ?_) (fun c37 => ?_)
      · refine T_iload_n (pc := 42) C dX13_arrival_42 rfl 1 rfl ?_
        refine T_iload_n (pc := 43) C dX13_arrival_43 rfl 2 rfl ?_
        refine T_icmp_ne (pc := 44) C 49 dX13_arrival_44 rfl h1 h2 (fun c38 => ?_) (fun c38 => ?_)
        · refine T_aload_n (pc := 49) C dX13_arrival_49 rfl 0 rfl ?_
          refine T_iload_n (pc := 50) C dX13_arrival_50 rfl 1 rfl ?_
          refine T_callVip (pc := 51) C [vi x1] [] (fun o h9 hw => ct_X13_isOpen s35 x1 h1 hw o h9) kw_325 cm_X13_isOpen rcm rfl rfl (Nat.le_of_ble_eq_true rfl) (by decide) (a' := 0) (b' := 0) ⟨rfl, rfl⟩ dX13_arrival_51 (fun v39 hv39 => ?_)
          refine T_if_eq (pc := 54) C 65 dX13_arrival_54 rfl hv39.1 (fun c40 => ?_) (fun c40 => ?_)
          · refine T_aload_n (pc := 65) C dX13_arrival_65 rfl 0 rfl ?_
            refine T_iconst (pc := 66) C dX13_arrival_66 ?_
            refine T_callVi (pc := 67) C [vi 3] [] (fun o h9 hw => ct_X13_fail s35 3 (rngL rfl) hw o h9) kw_181 cm_X13_fail rcm rfl rfl (Nat.le_of_ble_eq_true rfl) (by decide) (a' := 0) (b' := 0) ⟨rfl, rfl⟩ dX13_arrival_67 (fun v41 hv41 => ?_)
            exact T_iret (pc := 70) (v41.1, v41.2) (fun h9 => h9) hv41.1 (nar_I _) (by decide) dX13_arrival_70
          · refine T_aload_n (pc := 57) C dX13_arrival_57 rfl 0 rfl ?_
            refine T_iload_n (pc := 58) C dX13_arrival_58 rfl 2 rfl ?_
            refine T_callVip (pc := 59) C [vi x2] [] (fun o h9 hw => ct_X13_isOpen s35 x2 h2 hw o h9) kw_325 cm_X13_isOpen rcm rfl rfl (Nat.le_of_ble_eq_true rfl) (by decide) (a' := 0) (b' := 0) ⟨rfl, rfl⟩ dX13_arrival_59 (fun v42 hv42 => ?_)
            refine T_if_ne (pc := 62) C 71 dX13_arrival_62 rfl hv42.1 (fun c43 => ?_) (fun c43 => ?_)
            · refine T_iconst (pc := 71) C dX13_arrival_71 ?_
              refine T_istore (pc := 72) (L' := [(4, vi 0), (0, .ref (ad 0)), (1, vi x1), (2, vi x2), (3, vi x3)]) C dX13_arrival_72 (Nat.le_of_ble_eq_true rfl) rfl ?_
              refine T_sub (L' := [(0, .ref (ad 0)), (1, vi x1), (2, vi x2), (3, vi x3), (4, vi 0)]) [1, 2, 3, 4, 0] rfl ?_
              refine T_loopE (lp_X13_arrival_74 C x1 x2 x3 h1 h2 h3 N s35 0 (rngL rfl)) (fun q44 hq44 => ?_)
              refine T_aload_n (pc := 105) C dX13_arrival_105 rfl 0 rfl ?_
              refine Tm_getA (pc := 106) C 4 5 (by decide) (fun _ => rfl) kw_353 rfl dX13_arrival_106 ?_
              refine T_iload_n (pc := 109) C dX13_arrival_109 rfl 1 rfl ?_
              refine T_iload_n (pc := 110) C dX13_arrival_110 rfl 3 rfl ?_
              refine T_guard (fun g45 => ?_)
              refine Tm_iast (pc := 111) C 5 x1.toNat ⟨by decide, by decide⟩ g45 rfl h3 dX13_arrival_111 ?_
              refine T_blS (fun s46 => ?_)
              refine T_aload_n (pc := 112) C dX13_arrival_112 rfl 0 rfl ?_
              refine Tm_getA (pc := 113) C 5 6 (by decide) (fun _ => rfl) kw_354 rfl dX13_arrival_113 ?_
              refine T_iload_n (pc := 116) C dX13_arrival_116 rfl 1 rfl ?_
              refine T_iload_n (pc := 117) C dX13_arrival_117 rfl 3 rfl ?_
              refine Tm_iast (pc := 118) C 6 x1.toNat ⟨by decide, by decide⟩ g45 rfl h3 dX13_arrival_118 ?_
              refine T_blS (fun s47 => ?_)
              refine T_iconst (pc := 119) C dX13_arrival_119 ?_
              refine T_istore (pc := 120) (L' := [(4, vi 1), (0, .ref (ad 0)), (1, vi x1), (2, vi x2), (3, vi x3)]) C dX13_arrival_120 (Nat.le_of_ble_eq_true rfl) rfl ?_
              refine T_sub (L' := [(0, .ref (ad 0)), (2, vi x2), (4, vi 1)]) [1, 3, 0] rfl ?_
              refine T_loopE (lp_X13_arrival_122 C N x2 h2 N s47 1 (Or.inr rfl)) (fun q48 hq48 => ?_)
              refine T_aload_n (pc := 136) C dX13_arrival_136 rfl 0 rfl ?_
              refine Tm_getA (pc := 137) C 4 5 (by decide) (fun _ => rfl) kw_353 rfl dX13_arrival_137 ?_
              refine T_iload_n (pc := 140) C dX13_arrival_140 rfl 1 rfl ?_
              refine T_guard (fun g49 => ?_)
              refine Tm_iald (pc := 141) C 5 x2.toNat ⟨by decide, by decide⟩ g49 rfl dX13_arrival_141 (fun r50 => ?_)
              refine T_ldc (pc := 142) C 1000000000 dX13_arrival_142 kw_357 (by decide) ?_
              refine T_icmp_ne (pc := 144) C 155 dX13_arrival_144 rfl r50 (rngL rfl) (fun c51 => ?_) (fun c51 => ?_)
              · refine T_aload_n (pc := 155) C dX13_arrival_155 rfl 0 rfl ?_
                refine Tm_getA (pc := 156) C 4 5 (by decide) (fun _ => rfl) kw_353 rfl dX13_arrival_156 ?_
                refine T_iload_n (pc := 159) C dX13_arrival_159 rfl 1 rfl ?_
                refine Tm_iald (pc := 160) C 5 x2.toNat ⟨by decide, by decide⟩ g49 rfl dX13_arrival_160 (fun r52 => ?_)
                exact T_iret (pc := 161) (q48, (q48 5 x2.toNat)) (fun h9 => h9) r52 (nar_I _) (by decide) dX13_arrival_161
              · refine T_aload_n (pc := 147) C dX13_arrival_147 rfl 0 rfl ?_
                refine T_iconst (pc := 148) C dX13_arrival_148 ?_
                refine T_callVi (pc := 149) C [vi 3] [] (fun o h9 hw => ct_X13_fail q48 3 (rngL rfl) hw o h9) kw_181 cm_X13_fail rcm rfl rfl (Nat.le_of_ble_eq_true rfl) (by decide) (a' := 0) (b' := 0) ⟨rfl, rfl⟩ dX13_arrival_149 (fun v53 hv53 => ?_)
                refine T_goto (pc := 152) C 161 dX13_arrival_152 rfl ?_
                exact T_iret (pc := 161) (v53.1, v53.2) (fun h9 => h9) hv53.1 (nar_I _) (by decide) dX13_arrival_161
            · refine T_aload_n (pc := 65) C dX13_arrival_65 rfl 0 rfl ?_
              refine T_iconst (pc := 66) C dX13_arrival_66 ?_
              refine T_callVi (pc := 67) C [vi 3] [] (fun o h9 hw => ct_X13_fail s35 3 (rngL rfl) hw o h9) kw_181 cm_X13_fail rcm rfl rfl (Nat.le_of_ble_eq_true rfl) (by decide) (a' := 0) (b' := 0) ⟨rfl, rfl⟩ dX13_arrival_67 (fun v54 hv54 => ?_)
              exact T_iret (pc := 70) (v54.1, v54.2) (fun h9 => h9) hv54.1 (nar_I _) (by decide) dX13_arrival_70
        · refine T_iload_n (pc := 47) C dX13_arrival_47 rfl 3 rfl ?_
          exact T_iret (pc := 48) (s35, x3) (fun h9 => h9) h3 (nar_I _) (by decide) dX13_arrival_48
      · refine T_iconst (pc := 40) C dX13_arrival_40 ?_
        exact T_iret (pc := 41) (s35, 0) (fun h9 => h9) (rngL rfl) (nar_I _) (by decide) dX13_arrival_41
  · refine T_iconst (pc := 10) C dX13_arrival_10 ?_
    refine T_goto (pc := 11) C 30 dX13_arrival_11 rfl ?_
    refine Tm_put (pc := 30) C (ty := .int) 11 ⟨by decide, by decide⟩ (rngL rfl) kw_144 rfl (nar_I _) (fit_I _) dX13_arrival_30 ?_
    refine T_blS (fun s55 => ?_)
    refine T_aload_n (pc := 33) C dX13_arrival_33 rfl 0 rfl ?_
    refine Tm_get (pc := 34) C 11 ⟨by decide, by decide⟩ kw_144 dX13_arrival_34 (fun r56 => ?_)
    refine T_if_le (pc := 37) C 42 dX13_arrival_37 rfl r56 (fun c57 => ?_) (fun c57 => ?_)
    · refine T_iload_n (pc := 42) C dX13_arrival_42 rfl 1 rfl ?_
      refine T_iload_n (pc := 43) C dX13_arrival_43 rfl 2 rfl ?_
      refine T_icmp_ne (pc := 44) C 49 dX13_arrival_44 rfl h1 h2 (fun c58 => ?_) (fun c58 => ?_)
      · refine T_aload_n (pc := 49) C dX13_arrival_49 rfl 0 rfl ?_
        refine T_iload_n (pc := 50) C dX13_arrival_50 rfl 1 rfl ?_
        refine T_callVip (pc := 51) C [vi x1] [] (fun o h9 hw => ct_X13_isOpen s55 x1 h1 hw o h9) kw_325 cm_X13_isOpen rcm rfl rfl (Nat.le_of_ble_eq_true rfl) (by decide) (a' := 0) (b' := 0) ⟨rfl, rfl⟩ dX13_arrival_51 (fun v59 hv59 => ?_)
        refine T_if_eq (pc := 54) C 65 dX13_arrival_54 rfl hv59.1 (fun c60 => ?_) (fun c60 => ?_)
        · refine T_aload_n (pc := 65) C dX13_arrival_65 rfl 0 rfl ?_
          refine T_iconst (pc := 66) C dX13_arrival_66 ?_
          refine T_callVi (pc := 67) C [vi 3] [] (fun o h9 hw => ct_X13_fail s55 3 (rngL rfl) hw o h9) kw_181 cm_X13_fail rcm rfl rfl (Nat.le_of_ble_eq_true rfl) (by decide) (a' := 0) (b' := 0) ⟨rfl, rfl⟩ dX13_arrival_67 (fun v61 hv61 => ?_)
          exact T_iret (pc := 70) (v61.1, v61.2) (fun h9 => h9) hv61.1 (nar_I _) (by decide) dX13_arrival_70
        · refine T_aload_n (pc := 57) C dX13_arrival_57 rfl 0 rfl ?_
          refine T_iload_n (pc := 58) C dX13_arrival_58 rfl 2 rfl ?_
          refine T_callVip (pc := 59) C [vi x2] [] (fun o h9 hw => ct_X13_isOpen s55 x2 h2 hw o h9) kw_325 cm_X13_isOpen rcm rfl rfl (Nat.le_of_ble_eq_true rfl) (by decide) (a' := 0) (b' := 0) ⟨rfl, rfl⟩ dX13_arrival_59 (fun v62 hv62 => ?_)
          refine T_if_ne (pc := 62) C 71 dX13_arrival_62 rfl hv62.1 (fun c63 => ?_) (fun c63 => ?_)
          · refine T_iconst (pc := 71) C dX13_arrival_71 ?_
            refine T_istore (pc := 72) (L' := [(4, vi 0), (0, .ref (ad 0)), (1, vi x1), (2, vi x2), (3, vi x3)]) C dX13_arrival_72 (Nat.le_of_ble_eq_true rfl) rfl ?_
            refine T_sub (L' := [(0, .ref (ad 0)), (1, vi x1), (2, vi x2), (3, vi x3), (4, vi 0)]) [1, 2, 3, 4, 0] rfl ?_
            refine T_loopE (lp_X13_arrival_74 C x1 x2 x3 h1 h2 h3 N s55 0 (rngL rfl)) (fun q64 hq64 => ?_)
            refine T_aload_n (pc := 105) C dX13_arrival_105 rfl 0 rfl ?_
            refine Tm_getA (pc := 106) C 4 5 (by decide) (fun _ => rfl) kw_353 rfl dX13_arrival_106 ?_
            refine T_iload_n (pc := 109) C dX13_arrival_109 rfl 1 rfl ?_
            refine T_iload_n (pc := 110) C dX13_arrival_110 rfl 3 rfl ?_
            refine T_guard (fun g65 => ?_)
            refine Tm_iast (pc := 111) C 5 x1.toNat ⟨by decide, by decide⟩ g65 rfl h3 dX13_arrival_111 ?_
            refine T_blS (fun s66 => ?_)
            refine T_aload_n (pc := 112) C dX13_arrival_112 rfl 0 rfl ?_
            refine Tm_getA (pc := 113) C 5 6 (by decide) (fun _ => rfl) kw_354 rfl dX13_arrival_113 ?_
            refine T_iload_n (pc := 116) C dX13_arrival_116 rfl 1 rfl ?_
            refine T_iload_n (pc := 117) C dX13_arrival_117 rfl 3 rfl ?_
            refine Tm_iast (pc := 118) C 6 x1.toNat ⟨by decide, by decide⟩ g65 rfl h3 dX13_arrival_118 ?_
            refine T_blS (fun s67 => ?_)
            refine T_iconst (pc := 119) C dX13_arrival_119 ?_
            refine T_istore (pc := 120) (L' := [(4, vi 1), (0, .ref (ad 0)), (1, vi x1), (2, vi x2), (3, vi x3)]) C dX13_arrival_120 (Nat.le_of_ble_eq_true rfl) rfl ?_
            refine T_sub (L' := [(0, .ref (ad 0)), (2, vi x2), (4, vi 1)]) [1, 3, 0] rfl ?_
            refine T_loopE (lp_X13_arrival_122 C N x2 h2 N s67 1 (Or.inr rfl)) (fun q68 hq68 => ?_)
            refine T_aload_n (pc := 136) C dX13_arrival_136 rfl 0 rfl ?_
            refine Tm_getA (pc := 137) C 4 5 (by decide) (fun _ => rfl) kw_353 rfl dX13_arrival_137 ?_
            refine T_iload_n (pc := 140) C dX13_arrival_140 rfl 1 rfl ?_
            refine T_guard (fun g69 => ?_)
            refine Tm_iald (pc := 141) C 5 x2.toNat ⟨by decide, by decide⟩ g69 rfl dX13_arrival_141 (fun r70 => ?_)
            refine T_ldc (pc := 142) C 1000000000 dX13_arrival_142 kw_357 (by decide) ?_
            refine T_icmp_ne (pc := 144) C 155 dX13_arrival_144 rfl r70 (rngL rfl) (fun c71 => ?_) (fun c71 => ?_)
            · refine T_aload_n (pc := 155) C dX13_arrival_155 rfl 0 rfl ?_
              refine Tm_getA (pc := 156) C 4 5 (by decide) (fun _ => rfl) kw_353 rfl dX13_arrival_156 ?_
              refine T_iload_n (pc := 159) C dX13_arrival_159 rfl 1 rfl ?_
              refine Tm_iald (pc := 160) C 5 x2.toNat ⟨by decide, by decide⟩ g69 rfl dX13_arrival_160 (fun r72 => ?_)
              exact T_iret (pc := 161) (q68, (q68 5 x2.toNat)) (fun h9 => h9) r72 (nar_I _) (by decide) dX13_arrival_161
            · refine T_aload_n (pc := 147) C dX13_arrival_147 rfl 0 rfl ?_
              refine T_iconst (pc := 148) C dX13_arrival_148 ?_
              refine T_callVi (pc := 149) C [vi 3] [] (fun o h9 hw => ct_X13_fail q68 3 (rngL rfl) hw o h9) kw_181 cm_X13_fail rcm rfl rfl (Nat.le_of_ble_eq_true rfl) (by decide) (a' := 0) (b' := 0) ⟨rfl, rfl⟩ dX13_arrival_149 (fun v73 hv73 => ?_)
              refine T_goto (pc := 152) C 161 dX13_arrival_152 rfl ?_
              exact T_iret (pc := 161) (v73.1, v73.2) (fun h9 => h9) hv73.1 (nar_I _) (by decide) dX13_arrival_161
          · refine T_aload_n (pc := 65) C dX13_arrival_65 rfl 0 rfl ?_
            refine T_iconst (pc := 66) C dX13_arrival_66 ?_
            refine T_callVi (pc := 67) C [vi 3] [] (fun o h9 hw => ct_X13_fail s55 3 (rngL rfl) hw o h9) kw_181 cm_X13_fail rcm rfl rfl (Nat.le_of_ble_eq_true rfl) (by decide) (a' := 0) (b' := 0) ⟨rfl, rfl⟩ dX13_arrival_67 (fun v74 hv74 => ?_)
            exact T_iret (pc := 70) (v74.1, v74.2) (fun h9 => h9) hv74.1 (nar_I _) (by decide) dX13_arrival_70
      · refine T_iload_n (pc := 47) C dX13_arrival_47 rfl 3 rfl ?_
        exact T_iret (pc := 48) (s55, x3) (fun h9 => h9) h3 (nar_I _) (by decide) dX13_arrival_48
    · refine T_iconst (pc := 40) C dX13_arrival_40 ?_
      exact T_iret (pc := 41) (s55, 0) (fun h9 => h9) (rngL rfl) (nar_I _) (by decide) dX13_arrival_41

abbrev rm_X13_earliestArrival : Room := ⟨7, 0, 0, 165⟩
theorem cm_X13_earliestArrival : cmV yX13_earliestArrival cX13_earliestArrival 4 (some .int) 3 := ⟨kw_83, kw_145, ⟨by decide +kernel, by decide +kernel, by decide +kernel⟩, kw_371, kw_372⟩
def f_X13_earliestArrival (N : Nat) (σ : Sm) (x1 : Int) (x2 : Int) (x3 : Int) : Option (Sm × Int) :=
  (f_X13_arrival N σ x1 x2 x3).bind fun v1 => some (v1.1, v1.2)
theorem ct_X13_earliestArrival {l : Launch} {cy : ClassId} {ad : Nat → Nat} {G : va_G} (N : Nat) (σ : Sm) (x1 : Int) (x2 : Int) (x3 : Int) (h1 : rng x1) (h2 : rng x2) (h3 : rng x3) (hw : wfm σ) (o : Sm × Int) (h : f_X13_earliestArrival N σ x1 x2 x3 = some o) : CtI l yX13_earliestArrival cX13_earliestArrival 4 (some .int) rm_X13_earliestArrival (wlm cy ad) wfm G (tym cy) [.ref (ad 0), vi x1, vi x2, vi x3] σ o.1 o.2 := by
  refine ctI_of (by decide) (Nat.le_of_ble_eq_true rfl) hw o o h (fun X Y w => EndI X Y cX13_earliestArrival rm_X13_earliestArrival .int w) (fun _ _ h => h) (fun X A Q hX C => ?_)
  replace C : Cx X (Ym cy ad G A 4 Q) cX13_earliestArrival RX13 (some .int) rm_X13_earliestArrival (tym cy) := C
  show T X (Ym cy ad G A 4 Q) (fun w => EndI X (Ym cy ad G A 4 Q) cX13_earliestArrival rm_X13_earliestArrival .int w) 0 0 0 [(0, .ref (ad 0)), (1, vi x1), (2, vi x2), (3, vi x3)] [] σ (f_X13_earliestArrival N σ x1 x2 x3)
  unfold f_X13_earliestArrival
  refine T_aload_n (pc := 0) C dX13_earliestArrival_0 rfl 0 rfl ?_
  refine T_iload_n (pc := 1) C dX13_earliestArrival_1 rfl 1 rfl ?_
  refine T_iload_n (pc := 2) C dX13_earliestArrival_2 rfl 2 rfl ?_
  refine T_iload_n (pc := 3) C dX13_earliestArrival_3 rfl 3 rfl ?_
  refine T_callVi (pc := 4) C [vi x1, vi x2, vi x3] [] (fun o h9 hw => ct_X13_arrival N σ x1 x2 x3 h1 h2 h3 hw o h9) kw_370 cm_X13_arrival rcm rfl rfl (Nat.le_of_ble_eq_true rfl) (by decide) (a' := 0) (b' := 0) ⟨rfl, rfl⟩ dX13_earliestArrival_4 (fun v1 hv1 => ?_)
  exact T_iret (pc := 7) (v1.1, v1.2) (fun h9 => h9) hv1.1 (nar_I _) (by decide) dX13_earliestArrival_7

abbrev rm_X13_earliestArrivalByRounds : Room := ⟨7, 0, 0, 165⟩
theorem cm_X13_earliestArrivalByRounds : cmV yX13_earliestArrivalByRounds cX13_earliestArrivalByRounds 4 (some .int) 3 := ⟨kw_84, kw_145, ⟨by decide +kernel, by decide +kernel, by decide +kernel⟩, kw_373, kw_374⟩
def f_X13_earliestArrivalByRounds (N : Nat) (σ : Sm) (x1 : Int) (x2 : Int) (x3 : Int) : Option (Sm × Int) :=
  (f_X13_arrival N σ x1 x2 x3).bind fun v1 => some (v1.1, v1.2)
theorem ct_X13_earliestArrivalByRounds {l : Launch} {cy : ClassId} {ad : Nat → Nat} {G : va_G} (N : Nat) (σ : Sm) (x1 : Int) (x2 : Int) (x3 : Int) (h1 : rng x1) (h2 : rng x2) (h3 : rng x3) (hw : wfm σ) (o : Sm × Int) (h : f_X13_earliestArrivalByRounds N σ x1 x2 x3 = some o) : CtI l yX13_earliestArrivalByRounds cX13_earliestArrivalByRounds 4 (some .int) rm_X13_earliestArrivalByRounds (wlm cy ad) wfm G (tym cy) [.ref (ad 0), vi x1, vi x2, vi x3] σ o.1 o.2 := by
  refine ctI_of (by decide) (Nat.le_of_ble_eq_true rfl) hw o o h (fun X Y w => EndI X Y cX13_earliestArrivalByRounds rm_X13_earliestArrivalByRounds .int w) (fun _ _ h => h) (fun X A Q hX C => ?_)
  replace C : Cx X (Ym cy ad G A 4 Q) cX13_earliestArrivalByRounds RX13 (some .int) rm_X13_earliestArrivalByRounds (tym cy) := C
  show T X (Ym cy ad G A 4 Q) (fun w => EndI X (Ym cy ad G A 4 Q) cX13_earliestArrivalByRounds rm_X13_earliestArrivalByRounds .int w) 0 0 0 [(0, .ref (ad 0)), (1, vi x1), (2, vi x2), (3, vi x3)] [] σ (f_X13_earliestArrivalByRounds N σ x1 x2 x3)
  unfold f_X13_earliestArrivalByRounds
  refine T_aload_n (pc := 0) C dX13_earliestArrivalByRounds_0 rfl 0 rfl ?_
  refine T_iload_n (pc := 1) C dX13_earliestArrivalByRounds_1 rfl 1 rfl ?_
  refine T_iload_n (pc := 2) C dX13_earliestArrivalByRounds_2 rfl 2 rfl ?_
  refine T_iload_n (pc := 3) C dX13_earliestArrivalByRounds_3 rfl 3 rfl ?_
  refine T_callVi (pc := 4) C [vi x1, vi x2, vi x3] [] (fun o h9 hw => ct_X13_arrival N σ x1 x2 x3 h1 h2 h3 hw o h9) kw_370 cm_X13_arrival rcm rfl rfl (Nat.le_of_ble_eq_true rfl) (by decide) (a' := 0) (b' := 0) ⟨rfl, rfl⟩ dX13_earliestArrivalByRounds_4 (fun v1 hv1 => ?_)
  exact T_iret (pc := 7) (v1.1, v1.2) (fun h9 => h9) hv1.1 (nar_I _) (by decide) dX13_earliestArrivalByRounds_7

abbrev rm_X13_has : Room := ⟨0, 0, 0, 0⟩
theorem cm_X13_has : cmS yX13_has cX13_has 2 (some .boolean) 2 := ⟨kw_85, kw_145, ⟨by decide +kernel, by decide +kernel, by decide +kernel⟩, kw_375⟩
def f_X13_has (x0 : Int) (x1 : Int) : Option Int :=
  if 0 ≤ x1 ∧ x1 < 32 then if 0 ≤ x0 then (if ((x0 / 2 ^ x1.toNat) % 2) = 1 then some 1 else some 0) else none else none
theorem ct_X13_has {l : Launch} {cy : ClassId} {ad : Nat → Nat} {G : va_G} (σ : Sm) (x0 : Int) (x1 : Int) (h0 : rng x0) (h1 : rng x1) (hw : wfm σ) (o : Int) (h : f_X13_has x0 x1 = some o) : CtI l yX13_has cX13_has 2 (some .boolean) rm_X13_has (wlm cy ad) wfm G (tym cy) [vi x0, vi x1] σ σ o := by
  refine ctI_of (by decide) (Nat.le_of_ble_eq_true rfl) hw (σ, o) o h (fun X Y v => EndI X Y cX13_has rm_X13_has .boolean (σ, v)) (fun _ _ h => h) (fun X A Q hX C => ?_)
  replace C : Cx X (Ym cy ad G A 2 Q) cX13_has RX13 (some .boolean) rm_X13_has (tym cy) := C
  show T X (Ym cy ad G A 2 Q) (fun v => EndI X (Ym cy ad G A 2 Q) cX13_has rm_X13_has .boolean (σ, v)) 0 0 0 [(0, vi x0), (1, vi x1)] [] σ (f_X13_has x0 x1)
  unfold f_X13_has
  refine T_iload_n (pc := 0) C dX13_has_0 rfl 0 rfl ?_
  refine T_iload_n (pc := 1) C dX13_has_1 rfl 1 rfl ?_
  refine T_guard (fun g1 => ?_)
  refine T_guard (fun g2 => ?_)
  refine T_ishr (pc := 2) C h0 g2 g1 dX13_has_2 ?_
  refine T_iconst (pc := 3) C dX13_has_3 ?_
  refine T_mask (pc := 4) C 1 2 (by decide) (by decide) (by decide) dX13_has_4 ?_
  refine T_iconst (pc := 5) C dX13_has_5 ?_
  refine T_icmp_ne (pc := 6) C 13 dX13_has_6 rfl (bit_rng (bit_mod _)) (rngL rfl) (fun c3 => ?_) (fun c3 => ?_)
  · refine T_iconst (pc := 13) C dX13_has_13 ?_
    exact T_iret (pc := 14) 0 (fun h9 => h9) (rngL rfl) (nar_Z (Or.inl rfl)) (by decide) dX13_has_14
  · refine T_iconst (pc := 9) C dX13_has_9 ?_
    refine T_goto (pc := 10) C 14 dX13_has_10 rfl ?_
    exact T_iret (pc := 14) 1 (fun h9 => h9) (rngL rfl) (nar_Z (Or.inr rfl)) (by decide) dX13_has_14

abbrev rm_X13_walked : Room := ⟨1, 0, 0, 22⟩
theorem cm_X13_walked : cmV yX13_walked cX13_walked 6 (some .int) 1 := ⟨kw_86, kw_145, ⟨by decide +kernel, by decide +kernel, by decide +kernel⟩, kw_377, kw_378⟩
def f_X13_walked_27 (σ : Sm) (x3 : Int) (x4 : Int) : Nat → Int → Int → Option (Int)
  | 0, _, _ => none
  | n + 1, x2, x5 => (if (σ 1 0) ≤ x5 then some x2 else (f_X13_has x2 x4).bind fun v91 => (if v91 = 0 then f_X13_walked_27 σ x3 x4 n x2 (x5 + 1) else (f_X13_walk σ x4 x5).bind fun v93 => (if v93 ≤ 0 then f_X13_walked_27 σ x3 x4 n x2 (x5 + 1) else (f_X13_isOpen σ x4).bind fun v95 => (if v95 = 0 then f_X13_walked_27 σ x3 x4 n x2 (x5 + 1) else (f_X13_isOpen σ x5).bind fun v97 => (if v97 = 0 then f_X13_walked_27 σ x3 x4 n x2 (x5 + 1) else if 0 ≤ x5 ∧ x5 < 32 then if 0 ≤ x2 then if 0 ≤ ((1 : Int) * 2 ^ x5.toNat) then bl (ior x2 ((1 : Int) * 2 ^ x5.toNat)) fun v102 => if rng v102 then f_X13_walked_27 σ x3 x4 n v102 (x5 + 1) else none else none else none else none)))))
theorem lp_X13_walked_27 {X : vjX} {A : Nat → Prop} {Q : State → Prop} {cy : ClassId} {ad : Nat → Nat} {G : va_G} (C : Cx X (Ym cy ad G A 6 Q) cX13_walked RX13 (some .int) rm_X13_walked (tym cy)) (σ : Sm) (x3 : Int) (x4 : Int) (h3 : rng x3) (h4 : rng x4) : ∀ (n : Nat) (x2 : Int) (x5 : Int) (h2 : rng x2) (h5 : rng x5), T X (Ym cy ad G A 6 Q) (fun (q : Int) => rng q → J X (Ym cy ad G A 6 Q) 0 0 89 [(0, .ref (ad 0)), (2, vi q), (3, vi x3), (4, vi x4)] [] σ) 0 0 27 [(0, .ref (ad 0)), (2, vi x2), (3, vi x3), (4, vi x4), (5, vi x5)] [] σ (f_X13_walked_27 σ x3 x4 n x2 x5) := by
  intro n
  induction n with
  | zero => intro x2 x5 h2 h5; exact T_none
  | succ n ih =>
    intro x2 x5 h2 h5
    rw [f_X13_walked_27]
    refine T_iload (pc := 27) C dX13_walked_27 4 rfl ?_
    refine T_aload_n (pc := 29) C dX13_walked_29 rfl 0 rfl ?_
    refine Tm_getA (pc := 30) C 0 1 (by decide) (fun _ => rfl) kw_152 rfl dX13_walked_30 ?_
    refine T_iconst (pc := 33) C dX13_walked_33 ?_
    refine Tm_iald (pc := 34) C 1 0 ⟨by decide, by decide⟩ ⟨by decide, by decide⟩ rfl dX13_walked_34 (fun r89 => ?_)
    refine T_icmp_ge (pc := 35) C 89 dX13_walked_35 rfl h5 r89 (fun c90 => ?_) (fun c90 => ?_)
    · refine T_sub (L' := [(0, .ref (ad 0)), (2, vi x2), (3, vi x3), (4, vi x4)]) [0, 1, 2, 3] rfl ?_
      exact T_exit (fun h9 => h9 h2)
    · refine T_iload_n (pc := 38) C dX13_walked_38 rfl 1 rfl ?_
      refine T_iload (pc := 39) C dX13_walked_39 3 rfl ?_
      refine T_callSip (pc := 41) C [vi x2, vi x4] [] (fun o h9 hw => ct_X13_has σ x2 x4 h2 h4 hw o h9) kw_376 cm_X13_has rfl rfl (Nat.le_of_ble_eq_true rfl) (by decide) (a' := 0) (b' := 0) ⟨rfl, rfl⟩ dX13_walked_41 (fun v91 hv91 => ?_)
      refine T_if_eq (pc := 44) C 83 dX13_walked_44 rfl hv91.1 (fun c92 => ?_) (fun c92 => ?_)
      · refine T_iinc (pc := 83) (L' := [(5, vi (x5 + 1)), (0, .ref (ad 0)), (2, vi x2), (3, vi x3), (4, vi x4)]) C dX13_walked_83 (Nat.le_of_ble_eq_true rfl) 4 rfl rfl ?_
        refine T_goto (pc := 86) C 27 dX13_walked_86 rfl ?_
        refine T_sub (L' := [(0, .ref (ad 0)), (2, vi x2), (3, vi x3), (4, vi x4), (5, vi (x5 + 1))]) [1, 2, 3, 4, 0] rfl ?_
        exact ih x2 (x5 + 1) h2 (rng_inc c90 h5 r89)
      · refine T_aload_n (pc := 47) C dX13_walked_47 rfl 0 rfl ?_
        refine T_iload (pc := 48) C dX13_walked_48 3 rfl ?_
        refine T_iload (pc := 50) C dX13_walked_50 4 rfl ?_
        refine T_callVip (pc := 52) C [vi x4, vi x5] [] (fun o h9 hw => ct_X13_walk σ x4 x5 h4 h5 hw o h9) kw_185 cm_X13_walk rcm rfl rfl (Nat.le_of_ble_eq_true rfl) (by decide) (a' := 0) (b' := 0) ⟨rfl, rfl⟩ dX13_walked_52 (fun v93 hv93 => ?_)
        refine T_if_le (pc := 55) C 83 dX13_walked_55 rfl hv93.1 (fun c94 => ?_) (fun c94 => ?_)
        · refine T_iinc (pc := 83) (L' := [(5, vi (x5 + 1)), (0, .ref (ad 0)), (2, vi x2), (3, vi x3), (4, vi x4)]) C dX13_walked_83 (Nat.le_of_ble_eq_true rfl) 4 rfl rfl ?_
          refine T_goto (pc := 86) C 27 dX13_walked_86 rfl ?_
          refine T_sub (L' := [(0, .ref (ad 0)), (2, vi x2), (3, vi x3), (4, vi x4), (5, vi (x5 + 1))]) [1, 2, 3, 4, 0] rfl ?_
          exact ih x2 (x5 + 1) h2 (rng_inc c90 h5 r89)
        · refine T_aload_n (pc := 58) C dX13_walked_58 rfl 0 rfl ?_
          refine T_iload (pc := 59) C dX13_walked_59 3 rfl ?_
          refine T_callVip (pc := 61) C [vi x4] [] (fun o h9 hw => ct_X13_isOpen σ x4 h4 hw o h9) kw_325 cm_X13_isOpen rcm rfl rfl (Nat.le_of_ble_eq_true rfl) (by decide) (a' := 0) (b' := 0) ⟨rfl, rfl⟩ dX13_walked_61 (fun v95 hv95 => ?_)
          refine T_if_eq (pc := 64) C 83 dX13_walked_64 rfl hv95.1 (fun c96 => ?_) (fun c96 => ?_)
          · refine T_iinc (pc := 83) (L' := [(5, vi (x5 + 1)), (0, .ref (ad 0)), (2, vi x2), (3, vi x3), (4, vi x4)]) C dX13_walked_83 (Nat.le_of_ble_eq_true rfl) 4 rfl rfl ?_
            refine T_goto (pc := 86) C 27 dX13_walked_86 rfl ?_
            refine T_sub (L' := [(0, .ref (ad 0)), (2, vi x2), (3, vi x3), (4, vi x4), (5, vi (x5 + 1))]) [1, 2, 3, 4, 0] rfl ?_
            exact ih x2 (x5 + 1) h2 (rng_inc c90 h5 r89)
          · refine T_aload_n (pc := 67) C dX13_walked_67 rfl 0 rfl ?_
            refine T_iload (pc := 68) C dX13_walked_68 4 rfl ?_
            refine T_callVip (pc := 70) C [vi x5] [] (fun o h9 hw => ct_X13_isOpen σ x5 h5 hw o h9) kw_325 cm_X13_isOpen rcm rfl rfl (Nat.le_of_ble_eq_true rfl) (by decide) (a' := 0) (b' := 0) ⟨rfl, rfl⟩ dX13_walked_70 (fun v97 hv97 => ?_)
            refine T_if_eq (pc := 73) C 83 dX13_walked_73 rfl hv97.1 (fun c98 => ?_) (fun c98 => ?_)
            · refine T_iinc (pc := 83) (L' := [(5, vi (x5 + 1)), (0, .ref (ad 0)), (2, vi x2), (3, vi x3), (4, vi x4)]) C dX13_walked_83 (Nat.le_of_ble_eq_true rfl) 4 rfl rfl ?_
              refine T_goto (pc := 86) C 27 dX13_walked_86 rfl ?_
              refine T_sub (L' := [(0, .ref (ad 0)), (2, vi x2), (3, vi x3), (4, vi x4), (5, vi (x5 + 1))]) [1, 2, 3, 4, 0] rfl ?_
              exact ih x2 (x5 + 1) h2 (rng_inc c90 h5 r89)
            · refine T_iload_n (pc := 76) C dX13_walked_76 rfl 1 rfl ?_
              refine T_iconst (pc := 77) C dX13_walked_77 ?_
              refine T_iload (pc := 78) C dX13_walked_78 4 rfl ?_
              refine T_guard (fun g99 => ?_)
              refine T_ishl (pc := 80) C g99 dX13_walked_80 ?_
              refine T_guard (fun g100 => ?_)
              refine T_guard (fun g101 => ?_)
              refine T_ior (pc := 81) C g100 g101 dX13_walked_81 ?_
              refine T_blN (fun v102 => ?_)
              refine T_istore_n (pc := 82) (L' := [(2, vi v102), (0, .ref (ad 0)), (3, vi x3), (4, vi x4), (5, vi x5)]) C dX13_walked_82 rfl (Nat.le_of_ble_eq_true rfl) rfl ?_
              refine T_iinc (pc := 83) (L' := [(5, vi (x5 + 1)), (2, vi v102), (0, .ref (ad 0)), (3, vi x3), (4, vi x4)]) C dX13_walked_83 (Nat.le_of_ble_eq_true rfl) 4 rfl rfl ?_
              refine T_goto (pc := 86) C 27 dX13_walked_86 rfl ?_
              refine T_sub (L' := [(0, .ref (ad 0)), (2, vi v102), (3, vi x3), (4, vi x4), (5, vi (x5 + 1))]) [2, 1, 3, 4, 0] rfl ?_
              refine T_guard (fun g103 => ?_)
              exact ih v102 (x5 + 1) g103 (rng_inc c90 h5 r89)
def f_X13_walked_13 (N : Nat) (σ : Sm) (x3 : Int) : Nat → Int → Int → Option (Int)
  | 0, _, _ => none
  | n + 1, x2, x4 => (if (σ 1 0) ≤ x4 then some x2 else (f_X13_walked_27 σ x3 x4 N x2 0).bind fun q104 => f_X13_walked_13 N σ x3 n q104 (x4 + 1))
theorem lp_X13_walked_13 {X : vjX} {A : Nat → Prop} {Q : State → Prop} {cy : ClassId} {ad : Nat → Nat} {G : va_G} (C : Cx X (Ym cy ad G A 6 Q) cX13_walked RX13 (some .int) rm_X13_walked (tym cy)) (N : Nat) (σ : Sm) (x3 : Int) (h3 : rng x3) : ∀ (n : Nat) (x2 : Int) (x4 : Int) (h2 : rng x2) (h4 : rng x4), T X (Ym cy ad G A 6 Q) (fun (q : Int) => rng q → J X (Ym cy ad G A 6 Q) 0 0 95 [(0, .ref (ad 0)), (2, vi q), (3, vi x3)] [] σ) 0 0 13 [(0, .ref (ad 0)), (2, vi x2), (3, vi x3), (4, vi x4)] [] σ (f_X13_walked_13 N σ x3 n x2 x4) := by
  intro n
  induction n with
  | zero => intro x2 x4 h2 h4; exact T_none
  | succ n ih =>
    intro x2 x4 h2 h4
    rw [f_X13_walked_13]
    refine T_iload (pc := 13) C dX13_walked_13 3 rfl ?_
    refine T_aload_n (pc := 15) C dX13_walked_15 rfl 0 rfl ?_
    refine Tm_getA (pc := 16) C 0 1 (by decide) (fun _ => rfl) kw_152 rfl dX13_walked_16 ?_
    refine T_iconst (pc := 19) C dX13_walked_19 ?_
    refine Tm_iald (pc := 20) C 1 0 ⟨by decide, by decide⟩ ⟨by decide, by decide⟩ rfl dX13_walked_20 (fun r81 => ?_)
    refine T_icmp_ge (pc := 21) C 95 dX13_walked_21 rfl h4 r81 (fun c82 => ?_) (fun c82 => ?_)
    · refine T_sub (L' := [(0, .ref (ad 0)), (2, vi x2), (3, vi x3)]) [0, 1, 2] rfl ?_
      exact T_exit (fun h9 => h9 h2)
    · refine T_iconst (pc := 24) C dX13_walked_24 ?_
      refine T_istore (pc := 25) (L' := [(5, vi 0), (0, .ref (ad 0)), (2, vi x2), (3, vi x3), (4, vi x4)]) C dX13_walked_25 (Nat.le_of_ble_eq_true rfl) rfl ?_
      refine T_sub (L' := [(0, .ref (ad 0)), (2, vi x2), (3, vi x3), (4, vi x4), (5, vi 0)]) [1, 2, 3, 4, 0] rfl ?_
      refine T_loopE (lp_X13_walked_27 C σ x3 x4 h3 h4 N x2 0 h2 (rngL rfl)) (fun q104 hq104 => ?_)
      refine T_iinc (pc := 89) (L' := [(4, vi (x4 + 1)), (0, .ref (ad 0)), (2, vi q104), (3, vi x3)]) C dX13_walked_89 (Nat.le_of_ble_eq_true rfl) 3 rfl rfl ?_
      refine T_goto (pc := 92) C 13 dX13_walked_92 rfl ?_
      refine T_sub (L' := [(0, .ref (ad 0)), (2, vi q104), (3, vi x3), (4, vi (x4 + 1))]) [1, 2, 3, 0] rfl ?_
      exact ih q104 (x4 + 1) hq104 (rng_inc c82 h4 r81)
def f_X13_walked_4 (N : Nat) (σ : Sm) : Nat → Int → Int → Option (Int)
  | 0, _, _ => none
  | n + 1, x2, x3 => (if 10 ≤ x3 then some x2 else (f_X13_walked_13 N σ x3 N x2 0).bind fun q105 => f_X13_walked_4 N σ n q105 (x3 + 1))
theorem lp_X13_walked_4 {X : vjX} {A : Nat → Prop} {Q : State → Prop} {cy : ClassId} {ad : Nat → Nat} {G : va_G} (C : Cx X (Ym cy ad G A 6 Q) cX13_walked RX13 (some .int) rm_X13_walked (tym cy)) (N : Nat) (σ : Sm) : ∀ (n : Nat) (x2 : Int) (x3 : Int) (h2 : rng x2) (h3 : rng x3), T X (Ym cy ad G A 6 Q) (fun (q : Int) => rng q → J X (Ym cy ad G A 6 Q) 0 0 101 [(2, vi q)] [] σ) 0 0 4 [(0, .ref (ad 0)), (2, vi x2), (3, vi x3)] [] σ (f_X13_walked_4 N σ n x2 x3) := by
  intro n
  induction n with
  | zero => intro x2 x3 h2 h3; exact T_none
  | succ n ih =>
    intro x2 x3 h2 h3
    rw [f_X13_walked_4]
    refine T_iload_n (pc := 4) C dX13_walked_4 rfl 2 rfl ?_
    refine T_bipush (pc := 5) C dX13_walked_5 (by decide) ?_
    refine T_icmp_ge (pc := 7) C 101 dX13_walked_7 rfl h3 (rngL rfl) (fun c54 => ?_) (fun c54 => ?_)
    · refine T_sub (L' := [(2, vi x2)]) [1] rfl ?_
      exact T_exit (fun h9 => h9 h2)
    · refine T_iconst (pc := 10) C dX13_walked_10 ?_
      refine T_istore (pc := 11) (L' := [(4, vi 0), (0, .ref (ad 0)), (2, vi x2), (3, vi x3)]) C dX13_walked_11 (Nat.le_of_ble_eq_true rfl) rfl ?_
      refine T_sub (L' := [(0, .ref (ad 0)), (2, vi x2), (3, vi x3), (4, vi 0)]) [1, 2, 3, 0] rfl ?_
      refine T_loopE (lp_X13_walked_13 C N σ x3 h3 N x2 0 h2 (rngL rfl)) (fun q105 hq105 => ?_)
      refine T_iinc (pc := 95) (L' := [(3, vi (x3 + 1)), (0, .ref (ad 0)), (2, vi q105)]) C dX13_walked_95 (Nat.le_of_ble_eq_true rfl) 2 rfl rfl ?_
      refine T_goto (pc := 98) C 4 dX13_walked_98 rfl ?_
      refine T_sub (L' := [(0, .ref (ad 0)), (2, vi q105), (3, vi (x3 + 1))]) [1, 2, 0] rfl ?_
      exact ih q105 (x3 + 1) hq105 (rng_inc c54 h3 (rngL rfl))
def f_X13_walked (N : Nat) (σ : Sm) (x1 : Int) : Option Int :=
  (f_X13_walked_4 N σ N x1 0).bind fun q106 => some q106
theorem ct_X13_walked {l : Launch} {cy : ClassId} {ad : Nat → Nat} {G : va_G} (N : Nat) (σ : Sm) (x1 : Int) (h1 : rng x1) (hw : wfm σ) (o : Int) (h : f_X13_walked N σ x1 = some o) : CtI l yX13_walked cX13_walked 6 (some .int) rm_X13_walked (wlm cy ad) wfm G (tym cy) [.ref (ad 0), vi x1] σ σ o := by
  refine ctI_of (by decide) (Nat.le_of_ble_eq_true rfl) hw (σ, o) o h (fun X Y v => EndI X Y cX13_walked rm_X13_walked .int (σ, v)) (fun _ _ h => h) (fun X A Q hX C => ?_)
  replace C : Cx X (Ym cy ad G A 6 Q) cX13_walked RX13 (some .int) rm_X13_walked (tym cy) := C
  show T X (Ym cy ad G A 6 Q) (fun v => EndI X (Ym cy ad G A 6 Q) cX13_walked rm_X13_walked .int (σ, v)) 0 0 0 [(0, .ref (ad 0)), (1, vi x1)] [] σ (f_X13_walked N σ x1)
  unfold f_X13_walked
  refine T_iload_n (pc := 0) C dX13_walked_0 rfl 1 rfl ?_
  refine T_istore_n (pc := 1) (L' := [(2, vi x1), (0, .ref (ad 0)), (1, vi x1)]) C dX13_walked_1 rfl (Nat.le_of_ble_eq_true rfl) rfl ?_
  refine T_iconst (pc := 2) C dX13_walked_2 ?_
  refine T_istore_n (pc := 3) (L' := [(3, vi 0), (2, vi x1), (0, .ref (ad 0)), (1, vi x1)]) C dX13_walked_3 rfl (Nat.le_of_ble_eq_true rfl) rfl ?_
  refine T_sub (L' := [(0, .ref (ad 0)), (2, vi x1), (3, vi 0)]) [2, 1, 0] rfl ?_
  refine T_loopE (lp_X13_walked_4 C N σ N x1 0 h1 (rngL rfl)) (fun q106 hq106 => ?_)
  refine T_iload_n (pc := 101) C dX13_walked_101 rfl 0 rfl ?_
  exact T_iret (pc := 102) q106 (fun h9 => h9) hq106 (nar_I _) (by decide) dX13_walked_102

abbrev rm_X13_ridden : Room := ⟨2, 0, 0, 44⟩
theorem cm_X13_ridden : cmV yX13_ridden cX13_ridden 7 (some .int) 1 := ⟨kw_87, kw_145, ⟨by decide +kernel, by decide +kernel, by decide +kernel⟩, kw_379, kw_380⟩
def f_X13_ridden_31 (σ : Sm) (x1 : Int) (x3 : Int) : Nat → Int → Int → Int → Option (Int)
  | 0, _, _, _ => none
  | n + 1, x2, x4, x5 => (f_X13_l σ x3 5).bind fun v73 => (if v73 < x5 then some x2 else (f_X13_at σ x3 x5).bind fun v75 => (if x4 = 0 then (f_X13_has x1 v75).bind fun v77 => (if v77 = 0 then bl (ior x4 0) fun v79 => if rng (x5 + 1) then f_X13_ridden_31 σ x1 x3 n x2 v79 (x5 + 1) else none else (f_X13_isOpen σ v75).bind fun v81 => (if v81 = 0 then bl (ior x4 0) fun v83 => if rng (x5 + 1) then f_X13_ridden_31 σ x1 x3 n x2 v83 (x5 + 1) else none else bl (ior x4 1) fun v85 => if rng (x5 + 1) then f_X13_ridden_31 σ x1 x3 n x2 v85 (x5 + 1) else none)) else (f_X13_isOpen σ v75).bind fun v87 => (if v87 = 0 then (f_X13_has x1 v75).bind fun v89 => (if v89 = 0 then bl (ior x4 0) fun v91 => if rng (x5 + 1) then f_X13_ridden_31 σ x1 x3 n x2 v91 (x5 + 1) else none else (f_X13_isOpen σ v75).bind fun v93 => (if v93 = 0 then bl (ior x4 0) fun v95 => if rng (x5 + 1) then f_X13_ridden_31 σ x1 x3 n x2 v95 (x5 + 1) else none else bl (ior x4 1) fun v97 => if rng (x5 + 1) then f_X13_ridden_31 σ x1 x3 n x2 v97 (x5 + 1) else none)) else if 0 ≤ v75 ∧ v75 < 32 then if 0 ≤ x2 then if 0 ≤ ((1 : Int) * 2 ^ v75.toNat) then bl (ior x2 ((1 : Int) * 2 ^ v75.toNat)) fun v102 => (f_X13_has x1 v75).bind fun v103 => (if v103 = 0 then bl (ior x4 0) fun v105 => if rng v102 then if rng (x5 + 1) then f_X13_ridden_31 σ x1 x3 n v102 v105 (x5 + 1) else none else none else (f_X13_isOpen σ v75).bind fun v108 => (if v108 = 0 then bl (ior x4 0) fun v110 => if rng v102 then if rng (x5 + 1) then f_X13_ridden_31 σ x1 x3 n v102 v110 (x5 + 1) else none else none else bl (ior x4 1) fun v113 => if rng v102 then if rng (x5 + 1) then f_X13_ridden_31 σ x1 x3 n v102 v113 (x5 + 1) else none else none)) else none else none else none)))
theorem lp_X13_ridden_31 {X : vjX} {A : Nat → Prop} {Q : State → Prop} {cy : ClassId} {ad : Nat → Nat} {G : va_G} (C : Cx X (Ym cy ad G A 7 Q) cX13_ridden RX13 (some .int) rm_X13_ridden (tym cy)) (σ : Sm) (x1 : Int) (x3 : Int) (h1 : rng x1) (h3 : rng x3) : ∀ (n : Nat) (x2 : Int) (x4 : Int) (x5 : Int) (h2 : rng x2) (h4 : bit x4) (h5 : rng x5), T X (Ym cy ad G A 7 Q) (fun (q : Int) => rng q → J X (Ym cy ad G A 7 Q) 0 0 106 [(0, .ref (ad 0)), (1, vi x1), (2, vi q), (3, vi x3)] [] σ) 0 0 31 [(0, .ref (ad 0)), (1, vi x1), (2, vi x2), (3, vi x3), (4, vi x4), (5, vi x5)] [] σ (f_X13_ridden_31 σ x1 x3 n x2 x4 x5) := by
  intro n
  induction n with
  | zero => intro x2 x4 x5 h2 h4 h5; exact T_none
  | succ n ih =>
    intro x2 x4 x5 h2 h4 h5
    rw [f_X13_ridden_31]
    refine T_iload (pc := 31) C dX13_ridden_31 5 rfl ?_
    refine T_aload_n (pc := 33) C dX13_ridden_33 rfl 0 rfl ?_
    refine T_iload_n (pc := 34) C dX13_ridden_34 rfl 3 rfl ?_
    refine T_iconst (pc := 35) C dX13_ridden_35 ?_
    refine T_callVip (pc := 36) C [vi x3, vi 5] [vi x5] (fun o h9 hw => ct_X13_l σ x3 5 h3 (rngL rfl) hw o h9) kw_211 cm_X13_l rcm rfl rfl (Nat.le_of_ble_eq_true rfl) (by decide) (a' := 0) (b' := 0) ⟨rfl, rfl⟩ dX13_ridden_36 (fun v73 hv73 => ?_)
    refine T_icmp_gt (pc := 39) C 106 dX13_ridden_39 rfl h5 hv73.1 (fun c74 => ?_) (fun c74 => ?_)
    · refine T_sub (L' := [(0, .ref (ad 0)), (1, vi x1), (2, vi x2), (3, vi x3)]) [0, 1, 2, 3] rfl ?_
      exact T_exit (fun h9 => h9 h2)
    · refine T_aload_n (pc := 42) C dX13_ridden_42 rfl 0 rfl ?_
      refine T_iload_n (pc := 43) C dX13_ridden_43 rfl 3 rfl ?_
      refine T_iload (pc := 44) C dX13_ridden_44 5 rfl ?_
      refine T_callVip (pc := 46) C [vi x3, vi x5] [] (fun o h9 hw => ct_X13_at σ x3 x5 h3 h5 hw o h9) kw_334 cm_X13_at rcm rfl rfl (Nat.le_of_ble_eq_true rfl) (by decide) (a' := 0) (b' := 0) ⟨rfl, rfl⟩ dX13_ridden_46 (fun v75 hv75 => ?_)
      refine T_istore (pc := 49) (L' := [(6, vi v75), (0, .ref (ad 0)), (1, vi x1), (2, vi x2), (3, vi x3), (4, vi x4), (5, vi x5)]) C dX13_ridden_49 (Nat.le_of_ble_eq_true rfl) rfl ?_
      refine T_iload (pc := 51) C dX13_ridden_51 5 rfl ?_
      refine T_if_eq (pc := 53) C 72 dX13_ridden_53 rfl (bit_rng h4) (fun c76 => ?_) (fun c76 => ?_)
      · refine T_iload (pc := 72) C dX13_ridden_72 5 rfl ?_
        refine T_iload_n (pc := 74) C dX13_ridden_74 rfl 2 rfl ?_
        refine T_iload (pc := 75) C dX13_ridden_75 0 rfl ?_
        refine T_callSip (pc := 77) C [vi x1, vi v75] [vi x4] (fun o h9 hw => ct_X13_has σ x1 v75 h1 hv75.1 hw o h9) kw_376 cm_X13_has rfl rfl (Nat.le_of_ble_eq_true rfl) (by decide) (a' := 0) (b' := 0) ⟨rfl, rfl⟩ dX13_ridden_77 (fun v77 hv77 => ?_)
        refine T_if_eq (pc := 80) C 96 dX13_ridden_80 rfl hv77.1 (fun c78 => ?_) (fun c78 => ?_)
        · refine T_iconst (pc := 96) C dX13_ridden_96 ?_
          refine T_ior (pc := 97) C (bit_nn h4) (by decide) dX13_ridden_97 ?_
          refine T_blB (bit_or h4 (Or.inl rfl)) (fun v79 hv79 => ?_)
          refine T_istore (pc := 98) (L' := [(4, vi v79), (6, vi v75), (0, .ref (ad 0)), (1, vi x1), (2, vi x2), (3, vi x3), (5, vi x5)]) C dX13_ridden_98 (Nat.le_of_ble_eq_true rfl) rfl ?_
          refine T_iinc (pc := 100) (L' := [(5, vi (x5 + 1)), (4, vi v79), (6, vi v75), (0, .ref (ad 0)), (1, vi x1), (2, vi x2), (3, vi x3)]) C dX13_ridden_100 (Nat.le_of_ble_eq_true rfl) 6 rfl rfl ?_
          refine T_goto (pc := 103) C 31 dX13_ridden_103 rfl ?_
          refine T_sub (L' := [(0, .ref (ad 0)), (1, vi x1), (2, vi x2), (3, vi x3), (4, vi v79), (5, vi (x5 + 1))]) [3, 4, 5, 6, 1, 0] rfl ?_
          refine T_guard (fun g80 => ?_)
          exact ih x2 v79 (x5 + 1) h2 hv79 g80
        · refine T_aload_n (pc := 83) C dX13_ridden_83 rfl 1 rfl ?_
          refine T_iload (pc := 84) C dX13_ridden_84 0 rfl ?_
          refine T_callVip (pc := 86) C [vi v75] [vi x4] (fun o h9 hw => ct_X13_isOpen σ v75 hv75.1 hw o h9) kw_325 cm_X13_isOpen rcm rfl rfl (Nat.le_of_ble_eq_true rfl) (by decide) (a' := 0) (b' := 0) ⟨rfl, rfl⟩ dX13_ridden_86 (fun v81 hv81 => ?_)
          refine T_if_eq (pc := 89) C 96 dX13_ridden_89 rfl hv81.1 (fun c82 => ?_) (fun c82 => ?_)
          · refine T_iconst (pc := 96) C dX13_ridden_96 ?_
            refine T_ior (pc := 97) C (bit_nn h4) (by decide) dX13_ridden_97 ?_
            refine T_blB (bit_or h4 (Or.inl rfl)) (fun v83 hv83 => ?_)
            refine T_istore (pc := 98) (L' := [(4, vi v83), (6, vi v75), (0, .ref (ad 0)), (1, vi x1), (2, vi x2), (3, vi x3), (5, vi x5)]) C dX13_ridden_98 (Nat.le_of_ble_eq_true rfl) rfl ?_
            refine T_iinc (pc := 100) (L' := [(5, vi (x5 + 1)), (4, vi v83), (6, vi v75), (0, .ref (ad 0)), (1, vi x1), (2, vi x2), (3, vi x3)]) C dX13_ridden_100 (Nat.le_of_ble_eq_true rfl) 6 rfl rfl ?_
            refine T_goto (pc := 103) C 31 dX13_ridden_103 rfl ?_
            refine T_sub (L' := [(0, .ref (ad 0)), (1, vi x1), (2, vi x2), (3, vi x3), (4, vi v83), (5, vi (x5 + 1))]) [3, 4, 5, 6, 1, 0] rfl ?_
            refine T_guard (fun g84 => ?_)
            exact ih x2 v83 (x5 + 1) h2 hv83 g84
          · refine T_iconst (pc := 92) C dX13_ridden_92 ?_
            refine T_goto (pc := 93) C 97 dX13_ridden_93 rfl ?_
            refine T_ior (pc := 97) C (bit_nn h4) (by decide) dX13_ridden_97 ?_
            refine T_blB (bit_or h4 (Or.inr rfl)) (fun v85 hv85 => ?_)
            refine T_istore (pc := 98) (L' := [(4, vi v85), (6, vi v75), (0, .ref (ad 0)), (1, vi x1), (2, vi x2), (3, vi x3), (5, vi x5)]) C dX13_ridden_98 (Nat.le_of_ble_eq_true rfl) rfl ?_
            refine T_iinc (pc := 100) (L' := [(5, vi (x5 + 1)), (4, vi v85), (6, vi v75), (0, .ref (ad 0)), (1, vi x1), (2, vi x2), (3, vi x3)]) C dX13_ridden_100 (Nat.le_of_ble_eq_true rfl) 6 rfl rfl ?_
            refine T_goto (pc := 103) C 31 dX13_ridden_103 rfl ?_
            refine T_sub (L' := [(0, .ref (ad 0)), (1, vi x1), (2, vi x2), (3, vi x3), (4, vi v85), (5, vi (x5 + 1))]) [3, 4, 5, 6, 1, 0] rfl ?_
            refine T_guard (fun g86 => ?_)
            exact ih x2 v85 (x5 + 1) h2 hv85 g86
      · refine T_aload_n (pc := 56) C dX13_ridden_56 rfl 1 rfl ?_
        refine T_iload (pc := 57) C dX13_ridden_57 0 rfl ?_
        refine T_callVip (pc := 59) C [vi v75] [] (fun o h9 hw => ct_X13_isOpen σ v75 hv75.1 hw o h9) kw_325 cm_X13_isOpen rcm rfl rfl (Nat.le_of_ble_eq_true rfl) (by decide) (a' := 0) (b' := 0) ⟨rfl, rfl⟩ dX13_ridden_59 (fun v87 hv87 => ?_)
        refine T_if_eq (pc := 62) C 72 dX13_ridden_62 rfl hv87.1 (fun c88 => ?_) (fun c88 => ?_)
        · refine T_iload (pc := 72) C dX13_ridden_72 5 rfl ?_
          refine T_iload_n (pc := 74) C dX13_ridden_74 rfl 2 rfl ?_
          refine T_iload (pc := 75) C dX13_ridden_75 0 rfl ?_
          refine T_callSip (pc := 77) C [vi x1, vi v75] [vi x4] (fun o h9 hw => ct_X13_has σ x1 v75 h1 hv75.1 hw o h9) kw_376 cm_X13_has rfl rfl (Nat.le_of_ble_eq_true rfl) (by decide) (a' := 0) (b' := 0) ⟨rfl, rfl⟩ dX13_ridden_77 (fun v89 hv89 => ?_)
          refine T_if_eq (pc := 80) C 96 dX13_ridden_80 rfl hv89.1 (fun c90 => ?_) (fun c90 => ?_)
          · refine T_iconst (pc := 96) C dX13_ridden_96 ?_
            refine T_ior (pc := 97) C (bit_nn h4) (by decide) dX13_ridden_97 ?_
            refine T_blB (bit_or h4 (Or.inl rfl)) (fun v91 hv91 => ?_)
            refine T_istore (pc := 98) (L' := [(4, vi v91), (6, vi v75), (0, .ref (ad 0)), (1, vi x1), (2, vi x2), (3, vi x3), (5, vi x5)]) C dX13_ridden_98 (Nat.le_of_ble_eq_true rfl) rfl ?_
            refine T_iinc (pc := 100) (L' := [(5, vi (x5 + 1)), (4, vi v91), (6, vi v75), (0, .ref (ad 0)), (1, vi x1), (2, vi x2), (3, vi x3)]) C dX13_ridden_100 (Nat.le_of_ble_eq_true rfl) 6 rfl rfl ?_
            refine T_goto (pc := 103) C 31 dX13_ridden_103 rfl ?_
            refine T_sub (L' := [(0, .ref (ad 0)), (1, vi x1), (2, vi x2), (3, vi x3), (4, vi v91), (5, vi (x5 + 1))]) [3, 4, 5, 6, 1, 0] rfl ?_
            refine T_guard (fun g92 => ?_)
            exact ih x2 v91 (x5 + 1) h2 hv91 g92
          · refine T_aload_n (pc := 83) C dX13_ridden_83 rfl 1 rfl ?_
            refine T_iload (pc := 84) C dX13_ridden_84 0 rfl ?_
            refine T_callVip (pc := 86) C [vi v75] [vi x4] (fun o h9 hw => ct_X13_isOpen σ v75 hv75.1 hw o h9) kw_325 cm_X13_isOpen rcm rfl rfl (Nat.le_of_ble_eq_true rfl) (by decide) (a' := 0) (b' := 0) ⟨rfl, rfl⟩ dX13_ridden_86 (fun v93 hv93 => ?_)
            refine T_if_eq (pc := 89) C 96 dX13_ridden_89 rfl hv93.1 (fun c94 => ?_) (fun c94 => ?_)
            · refine T_iconst (pc := 96) C dX13_ridden_96 ?_
              refine T_ior (pc := 97) C (bit_nn h4) (by decide) dX13_ridden_97 ?_
              refine T_blB (bit_or h4 (Or.inl rfl)) (fun v95 hv95 => ?_)
              refine T_istore (pc := 98) (L' := [(4, vi v95), (6, vi v75), (0, .ref (ad 0)), (1, vi x1), (2, vi x2), (3, vi x3), (5, vi x5)]) C dX13_ridden_98 (Nat.le_of_ble_eq_true rfl) rfl ?_
              refine T_iinc (pc := 100) (L' := [(5, vi (x5 + 1)), (4, vi v95), (6, vi v75), (0, .ref (ad 0)), (1, vi x1), (2, vi x2), (3, vi x3)]) C dX13_ridden_100 (Nat.le_of_ble_eq_true rfl) 6 rfl rfl ?_
              refine T_goto (pc := 103) C 31 dX13_ridden_103 rfl ?_
              refine T_sub (L' := [(0, .ref (ad 0)), (1, vi x1), (2, vi x2), (3, vi x3), (4, vi v95), (5, vi (x5 + 1))]) [3, 4, 5, 6, 1, 0] rfl ?_
              refine T_guard (fun g96 => ?_)
              exact ih x2 v95 (x5 + 1) h2 hv95 g96
            · refine T_iconst (pc := 92) C dX13_ridden_92 ?_
              refine T_goto (pc := 93) C 97 dX13_ridden_93 rfl ?_
              refine T_ior (pc := 97) C (bit_nn h4) (by decide) dX13_ridden_97 ?_
              refine T_blB (bit_or h4 (Or.inr rfl)) (fun v97 hv97 => ?_)
              refine T_istore (pc := 98) (L' := [(4, vi v97), (6, vi v75), (0, .ref (ad 0)), (1, vi x1), (2, vi x2), (3, vi x3), (5, vi x5)]) C dX13_ridden_98 (Nat.le_of_ble_eq_true rfl) rfl ?_
              refine T_iinc (pc := 100) (L' := [(5, vi (x5 + 1)), (4, vi v97), (6, vi v75), (0, .ref (ad 0)), (1, vi x1), (2, vi x2), (3, vi x3)]) C dX13_ridden_100 (Nat.le_of_ble_eq_true rfl) 6 rfl rfl ?_
              refine T_goto (pc := 103) C 31 dX13_ridden_103 rfl ?_
              refine T_sub (L' := [(0, .ref (ad 0)), (1, vi x1), (2, vi x2), (3, vi x3), (4, vi v97), (5, vi (x5 + 1))]) [3, 4, 5, 6, 1, 0] rfl ?_
              refine T_guard (fun g98 => ?_)
              exact ih x2 v97 (x5 + 1) h2 hv97 g98
        · refine T_iload_n (pc := 65) C dX13_ridden_65 rfl 3 rfl ?_
          refine T_iconst (pc := 66) C dX13_ridden_66 ?_
          refine T_iload (pc := 67) C dX13_ridden_67 0 rfl ?_
          refine T_guard (fun g99 => ?_)
          refine T_ishl (pc := 69) C g99 dX13_ridden_69 ?_
          refine T_guard (fun g100 => ?_)
          refine T_guard (fun g101 => ?_)
          refine T_ior (pc := 70) C g100 g101 dX13_ridden_70 ?_
          refine T_blN (fun v102 => ?_)
          refine T_istore_n (pc := 71) (L' := [(2, vi v102), (6, vi v75), (0, .ref (ad 0)), (1, vi x1), (3, vi x3), (4, vi x4), (5, vi x5)]) C dX13_ridden_71 rfl (Nat.le_of_ble_eq_true rfl) rfl ?_
          refine T_iload (pc := 72) C dX13_ridden_72 5 rfl ?_
          refine T_iload_n (pc := 74) C dX13_ridden_74 rfl 3 rfl ?_
          refine T_iload (pc := 75) C dX13_ridden_75 1 rfl ?_
          refine T_callSip (pc := 77) C [vi x1, vi v75] [vi x4] (fun o h9 hw => ct_X13_has σ x1 v75 h1 hv75.1 hw o h9) kw_376 cm_X13_has rfl rfl (Nat.le_of_ble_eq_true rfl) (by decide) (a' := 0) (b' := 0) ⟨rfl, rfl⟩ dX13_ridden_77 (fun v103 hv103 => ?_)
          refine T_if_eq (pc := 80) C 96 dX13_ridden_80 rfl hv103.1 (fun c104 => ?_) (fun c104 => ?_)
          · refine T_iconst (pc := 96) C dX13_ridden_96 ?_
            refine T_ior (pc := 97) C (bit_nn h4) (by decide) dX13_ridden_97 ?_
            refine T_blB (bit_or h4 (Or.inl rfl)) (fun v105 hv105 => ?_)
            refine T_istore (pc := 98) (L' := [(4, vi v105), (2, vi v102), (6, vi v75), (0, .ref (ad 0)), (1, vi x1), (3, vi x3), (5, vi x5)]) C dX13_ridden_98 (Nat.le_of_ble_eq_true rfl) rfl ?_
            refine T_iinc (pc := 100) (L' := [(5, vi (x5 + 1)), (4, vi v105), (2, vi v102), (6, vi v75), (0, .ref (ad 0)), (1, vi x1), (3, vi x3)]) C dX13_ridden_100 (Nat.le_of_ble_eq_true rfl) 6 rfl rfl ?_
            refine T_goto (pc := 103) C 31 dX13_ridden_103 rfl ?_
            refine T_sub (L' := [(0, .ref (ad 0)), (1, vi x1), (2, vi v102), (3, vi x3), (4, vi v105), (5, vi (x5 + 1))]) [4, 5, 2, 6, 1, 0] rfl ?_
            refine T_guard (fun g106 => ?_)
            refine T_guard (fun g107 => ?_)
            exact ih v102 v105 (x5 + 1) g106 hv105 g107
          · refine T_aload_n (pc := 83) C dX13_ridden_83 rfl 2 rfl ?_
            refine T_iload (pc := 84) C dX13_ridden_84 1 rfl ?_
            refine T_callVip (pc := 86) C [vi v75] [vi x4] (fun o h9 hw => ct_X13_isOpen σ v75 hv75.1 hw o h9) kw_325 cm_X13_isOpen rcm rfl rfl (Nat.le_of_ble_eq_true rfl) (by decide) (a' := 0) (b' := 0) ⟨rfl, rfl⟩ dX13_ridden_86 (fun v108 hv108 => ?_)
            refine T_if_eq (pc := 89) C 96 dX13_ridden_89 rfl hv108.1 (fun c109 => ?_) (fun c109 => ?_)
            · refine T_iconst (pc := 96) C dX13_ridden_96 ?_
              refine T_ior (pc := 97) C (bit_nn h4) (by decide) dX13_ridden_97 ?_
              refine T_blB (bit_or h4 (Or.inl rfl)) (fun v110 hv110 => ?_)
              refine T_istore (pc := 98) (L' := [(4, vi v110), (2, vi v102), (6, vi v75), (0, .ref (ad 0)), (1, vi x1), (3, vi x3), (5, vi x5)]) C dX13_ridden_98 (Nat.le_of_ble_eq_true rfl) rfl ?_
              refine T_iinc (pc := 100) (L' := [(5, vi (x5 + 1)), (4, vi v110), (2, vi v102), (6, vi v75), (0, .ref (ad 0)), (1, vi x1), (3, vi x3)]) C dX13_ridden_100 (Nat.le_of_ble_eq_true rfl) 6 rfl rfl ?_
              refine T_goto (pc := 103) C 31 dX13_ridden_103 rfl ?_
              refine T_sub (L' := [(0, .ref (ad 0)), (1, vi x1), (2, vi v102), (3, vi x3), (4, vi v110), (5, vi (x5 + 1))]) [4, 5, 2, 6, 1, 0] rfl ?_
              refine T_guard (fun g111 => ?_)
              refine T_guard (fun g112 => ?_)
              exact ih v102 v110 (x5 + 1) g111 hv110 g112
            · refine T_iconst (pc := 92) C dX13_ridden_92 ?_
              refine T_goto (pc := 93) C 97 dX13_ridden_93 rfl ?_
              refine T_ior (pc := 97) C (bit_nn h4) (by decide) dX13_ridden_97 ?_
              refine T_blB (bit_or h4 (Or.inr rfl)) (fun v113 hv113 => ?_)
              refine T_istore (pc := 98) (L' := [(4, vi v113), (2, vi v102), (6, vi v75), (0, .ref (ad 0)), (1, vi x1), (3, vi x3), (5, vi x5)]) C dX13_ridden_98 (Nat.le_of_ble_eq_true rfl) rfl ?_
              refine T_iinc (pc := 100) (L' := [(5, vi (x5 + 1)), (4, vi v113), (2, vi v102), (6, vi v75), (0, .ref (ad 0)), (1, vi x1), (3, vi x3)]) C dX13_ridden_100 (Nat.le_of_ble_eq_true rfl) 6 rfl rfl ?_
              refine T_goto (pc := 103) C 31 dX13_ridden_103 rfl ?_
              refine T_sub (L' := [(0, .ref (ad 0)), (1, vi x1), (2, vi v102), (3, vi x3), (4, vi v113), (5, vi (x5 + 1))]) [4, 5, 2, 6, 1, 0] rfl ?_
              refine T_guard (fun g114 => ?_)
              refine T_guard (fun g115 => ?_)
              exact ih v102 v113 (x5 + 1) g114 hv113 g115
def f_X13_ridden_4 (N : Nat) (σ : Sm) (x1 : Int) : Nat → Int → Int → Option (Int)
  | 0, _, _ => none
  | n + 1, x2, x3 => (if (σ 1 2) ≤ x3 then some x2 else (f_X13_isRunning σ x3).bind fun v62 => (if v62 = 0 then f_X13_ridden_4 N σ x1 n x2 (x3 + 1) else (f_X13_ridden_31 σ x1 x3 N x2 0 0).bind fun q116 => f_X13_ridden_4 N σ x1 n q116 (x3 + 1)))
theorem lp_X13_ridden_4 {X : vjX} {A : Nat → Prop} {Q : State → Prop} {cy : ClassId} {ad : Nat → Nat} {G : va_G} (C : Cx X (Ym cy ad G A 7 Q) cX13_ridden RX13 (some .int) rm_X13_ridden (tym cy)) (N : Nat) (σ : Sm) (x1 : Int) (h1 : rng x1) : ∀ (n : Nat) (x2 : Int) (x3 : Int) (h2 : rng x2) (h3 : rng x3), T X (Ym cy ad G A 7 Q) (fun (q : Int) => rng q → J X (Ym cy ad G A 7 Q) 0 0 112 [(2, vi q)] [] σ) 0 0 4 [(0, .ref (ad 0)), (1, vi x1), (2, vi x2), (3, vi x3)] [] σ (f_X13_ridden_4 N σ x1 n x2 x3) := by
  intro n
  induction n with
  | zero => intro x2 x3 h2 h3; exact T_none
  | succ n ih =>
    intro x2 x3 h2 h3
    rw [f_X13_ridden_4]
    refine T_iload_n (pc := 4) C dX13_ridden_4 rfl 3 rfl ?_
    refine T_aload_n (pc := 5) C dX13_ridden_5 rfl 0 rfl ?_
    refine Tm_getA (pc := 6) C 0 1 (by decide) (fun _ => rfl) kw_152 rfl dX13_ridden_6 ?_
    refine T_iconst (pc := 9) C dX13_ridden_9 ?_
    refine Tm_iald (pc := 10) C 1 2 ⟨by decide, by decide⟩ ⟨by decide, by decide⟩ rfl dX13_ridden_10 (fun r60 => ?_)
    refine T_icmp_ge (pc := 11) C 112 dX13_ridden_11 rfl h3 r60 (fun c61 => ?_) (fun c61 => ?_)
    · refine T_sub (L' := [(2, vi x2)]) [2] rfl ?_
      exact T_exit (fun h9 => h9 h2)
    · refine T_aload_n (pc := 14) C dX13_ridden_14 rfl 0 rfl ?_
      refine T_iload_n (pc := 15) C dX13_ridden_15 rfl 3 rfl ?_
      refine T_callVip (pc := 16) C [vi x3] [] (fun o h9 hw => ct_X13_isRunning σ x3 h3 hw o h9) kw_283 cm_X13_isRunning rcm rfl rfl (Nat.le_of_ble_eq_true rfl) (by decide) (a' := 0) (b' := 0) ⟨rfl, rfl⟩ dX13_ridden_16 (fun v62 hv62 => ?_)
      refine T_if_ne (pc := 19) C 25 dX13_ridden_19 rfl hv62.1 (fun c63 => ?_) (fun c63 => ?_)
      · refine T_iconst (pc := 25) C dX13_ridden_25 ?_
        refine T_istore (pc := 26) (L' := [(4, vi 0), (0, .ref (ad 0)), (1, vi x1), (2, vi x2), (3, vi x3)]) C dX13_ridden_26 (Nat.le_of_ble_eq_true rfl) rfl ?_
        refine T_iconst (pc := 28) C dX13_ridden_28 ?_
        refine T_istore (pc := 29) (L' := [(5, vi 0), (4, vi 0), (0, .ref (ad 0)), (1, vi x1), (2, vi x2), (3, vi x3)]) C dX13_ridden_29 (Nat.le_of_ble_eq_true rfl) rfl ?_
        refine T_sub (L' := [(0, .ref (ad 0)), (1, vi x1), (2, vi x2), (3, vi x3), (4, vi 0), (5, vi 0)]) [2, 3, 4, 5, 1, 0] rfl ?_
        refine T_loopE (lp_X13_ridden_31 C σ x1 x3 h1 h3 N x2 0 0 h2 (Or.inl rfl) (rngL rfl)) (fun q116 hq116 => ?_)
        refine T_iinc (pc := 106) (L' := [(3, vi (x3 + 1)), (0, .ref (ad 0)), (1, vi x1), (2, vi q116)]) C dX13_ridden_106 (Nat.le_of_ble_eq_true rfl) 3 rfl rfl ?_
        refine T_goto (pc := 109) C 4 dX13_ridden_109 rfl ?_
        refine T_sub (L' := [(0, .ref (ad 0)), (1, vi x1), (2, vi q116), (3, vi (x3 + 1))]) [1, 2, 3, 0] rfl ?_
        exact ih q116 (x3 + 1) hq116 (rng_inc c61 h3 r60)
      · refine T_goto (pc := 22) C 106 dX13_ridden_22 rfl ?_
        refine T_iinc (pc := 106) (L' := [(3, vi (x3 + 1)), (0, .ref (ad 0)), (1, vi x1), (2, vi x2)]) C dX13_ridden_106 (Nat.le_of_ble_eq_true rfl) 3 rfl rfl ?_
        refine T_goto (pc := 109) C 4 dX13_ridden_109 rfl ?_
        refine T_sub (L' := [(0, .ref (ad 0)), (1, vi x1), (2, vi x2), (3, vi (x3 + 1))]) [1, 2, 3, 0] rfl ?_
        exact ih x2 (x3 + 1) h2 (rng_inc c61 h3 r60)
def f_X13_ridden (N : Nat) (σ : Sm) (x1 : Int) : Option Int :=
  (f_X13_ridden_4 N σ x1 N x1 0).bind fun q117 => some q117
theorem ct_X13_ridden {l : Launch} {cy : ClassId} {ad : Nat → Nat} {G : va_G} (N : Nat) (σ : Sm) (x1 : Int) (h1 : rng x1) (hw : wfm σ) (o : Int) (h : f_X13_ridden N σ x1 = some o) : CtI l yX13_ridden cX13_ridden 7 (some .int) rm_X13_ridden (wlm cy ad) wfm G (tym cy) [.ref (ad 0), vi x1] σ σ o := by
  refine ctI_of (by decide) (Nat.le_of_ble_eq_true rfl) hw (σ, o) o h (fun X Y v => EndI X Y cX13_ridden rm_X13_ridden .int (σ, v)) (fun _ _ h => h) (fun X A Q hX C => ?_)
  replace C : Cx X (Ym cy ad G A 7 Q) cX13_ridden RX13 (some .int) rm_X13_ridden (tym cy) := C
  show T X (Ym cy ad G A 7 Q) (fun v => EndI X (Ym cy ad G A 7 Q) cX13_ridden rm_X13_ridden .int (σ, v)) 0 0 0 [(0, .ref (ad 0)), (1, vi x1)] [] σ (f_X13_ridden N σ x1)
  unfold f_X13_ridden
  refine T_iload_n (pc := 0) C dX13_ridden_0 rfl 1 rfl ?_
  refine T_istore_n (pc := 1) (L' := [(2, vi x1), (0, .ref (ad 0)), (1, vi x1)]) C dX13_ridden_1 rfl (Nat.le_of_ble_eq_true rfl) rfl ?_
  refine T_iconst (pc := 2) C dX13_ridden_2 ?_
  refine T_istore_n (pc := 3) (L' := [(3, vi 0), (2, vi x1), (0, .ref (ad 0)), (1, vi x1)]) C dX13_ridden_3 rfl (Nat.le_of_ble_eq_true rfl) rfl ?_
  refine T_sub (L' := [(0, .ref (ad 0)), (1, vi x1), (2, vi x1), (3, vi 0)]) [2, 3, 1, 0] rfl ?_
  refine T_loopE (lp_X13_ridden_4 C N σ x1 h1 N x1 0 h1 (rngL rfl)) (fun q117 hq117 => ?_)
  refine T_iload_n (pc := 112) C dX13_ridden_112 rfl 0 rfl ?_
  exact T_iret (pc := 113) q117 (fun h9 => h9) hq117 (nar_I _) (by decide) dX13_ridden_113

abbrev rm_X13_boardings : Room := ⟨3, 0, 0, 70⟩
theorem cm_X13_boardings : cmV yX13_boardings cX13_boardings 5 (some .int) 2 := ⟨kw_88, kw_145, ⟨by decide +kernel, by decide +kernel, by decide +kernel⟩, kw_383, kw_384⟩
def f_X13_boardings_55 (N : Nat) (σ : Sm) (x2 : Int) : Nat → Int → Int → Option ((Sm × Int) ⊕ Unit)
  | 0, _, _ => none
  | n + 1, x3, x4 => (if 10 < x4 then some (.inr ()) else (f_X13_has x3 x2).bind fun v19 => (if v19 = 0 then (f_X13_ridden N σ x3).bind fun v21 => (f_X13_walked N σ v21).bind fun v22 => f_X13_boardings_55 N σ x2 n v22 (x4 + 1) else some (.inl (σ, x4))))
theorem lp_X13_boardings_55 {X : vjX} {A : Nat → Prop} {Q : State → Prop} {cy : ClassId} {ad : Nat → Nat} {G : va_G} (C : Cx X (Ym cy ad G A 5 Q) cX13_boardings RX13 (some .int) rm_X13_boardings (tym cy)) (N : Nat) (σ : Sm) (x2 : Int) (h2 : rng x2) : ∀ (n : Nat) (x3 : Int) (x4 : Int) (h3 : rng x3) (h4 : rng x4), T X (Ym cy ad G A 5 Q) (Sum.elim (fun w => EndI X (Ym cy ad G A 5 Q) cX13_boardings rm_X13_boardings .int w) (fun (q : Unit) => True → J X (Ym cy ad G A 5 Q) 0 0 89 [(0, .ref (ad 0))] [] σ)) 0 0 55 [(0, .ref (ad 0)), (2, vi x2), (3, vi x3), (4, vi x4)] [] σ (f_X13_boardings_55 N σ x2 n x3 x4) := by
  intro n
  induction n with
  | zero => intro x3 x4 h3 h4; exact T_none
  | succ n ih =>
    intro x3 x4 h3 h4
    rw [f_X13_boardings_55]
    refine T_iload (pc := 55) C dX13_boardings_55 3 rfl ?_
    refine T_bipush (pc := 57) C dX13_boardings_57 (by decide) ?_
    refine T_icmp_gt (pc := 59) C 89 dX13_boardings_59 rfl h4 (rngL rfl) (fun c18 => ?_) (fun c18 => ?_)
    · refine T_sub (L' := [(0, .ref (ad 0))]) [0] rfl ?_
      exact T_exit (fun h9 => h9 trivial)
    · refine T_iload_n (pc := 62) C dX13_boardings_62 rfl 2 rfl ?_
      refine T_iload_n (pc := 63) C dX13_boardings_63 rfl 1 rfl ?_
      refine T_callSip (pc := 64) C [vi x3, vi x2] [] (fun o h9 hw => ct_X13_has σ x3 x2 h3 h2 hw o h9) kw_376 cm_X13_has rfl rfl (Nat.le_of_ble_eq_true rfl) (by decide) (a' := 0) (b' := 0) ⟨rfl, rfl⟩ dX13_boardings_64 (fun v19 hv19 => ?_)
      refine T_if_eq (pc := 67) C 73 dX13_boardings_67 rfl hv19.1 (fun c20 => ?_) (fun c20 => ?_)
      · refine T_aload_n (pc := 73) C dX13_boardings_73 rfl 0 rfl ?_
        refine T_aload_n (pc := 74) C dX13_boardings_74 rfl 0 rfl ?_
        refine T_iload_n (pc := 75) C dX13_boardings_75 rfl 2 rfl ?_
        refine T_callVip (pc := 76) C [vi x3] [.ref (ad 0)] (fun o h9 hw => ct_X13_ridden N σ x3 h3 hw o h9) kw_382 cm_X13_ridden rcm rfl rfl (Nat.le_of_ble_eq_true rfl) (by decide) (a' := 0) (b' := 0) ⟨rfl, rfl⟩ dX13_boardings_76 (fun v21 hv21 => ?_)
        refine T_callVip (pc := 79) C [vi v21] [] (fun o h9 hw => ct_X13_walked N σ v21 hv21.1 hw o h9) kw_381 cm_X13_walked rcm rfl rfl (Nat.le_of_ble_eq_true rfl) (by decide) (a' := 0) (b' := 0) ⟨rfl, rfl⟩ dX13_boardings_79 (fun v22 hv22 => ?_)
        refine T_istore_n (pc := 82) (L' := [(3, vi v22), (0, .ref (ad 0)), (2, vi x2), (4, vi x4)]) C dX13_boardings_82 rfl (Nat.le_of_ble_eq_true rfl) rfl ?_
        refine T_iinc (pc := 83) (L' := [(4, vi (x4 + 1)), (3, vi v22), (0, .ref (ad 0)), (2, vi x2)]) C dX13_boardings_83 (Nat.le_of_ble_eq_true rfl) 3 rfl rfl ?_
        refine T_goto (pc := 86) C 55 dX13_boardings_86 rfl ?_
        refine T_sub (L' := [(0, .ref (ad 0)), (2, vi x2), (3, vi v22), (4, vi (x4 + 1))]) [2, 3, 1, 0] rfl ?_
        exact ih v22 (x4 + 1) hv22.1 (rng_incl c18 h4 (by decide))
      · refine T_iload (pc := 70) C dX13_boardings_70 3 rfl ?_
        exact T_iret (pc := 72) (Sum.inl (σ, x4)) (fun h9 => h9) h4 (nar_I _) (by decide) dX13_boardings_72
def f_X13_boardings (N : Nat) (σ : Sm) (x1 : Int) (x2 : Int) : Option (Sm × Int) :=
  (f_X13_areStops σ x1 x2).bind fun v1 => (f_X13_checked σ v1).bind fun v2 => (if v2.2 ≤ 0 then (if x1 = x2 then some (v2.1, 0) else (f_X13_isOpen v2.1 x1).bind fun v5 => (if v5 = 0 then (f_X13_fail v2.1 2).bind fun v7 => some (v7.1, v7.2) else (f_X13_isOpen v2.1 x2).bind fun v8 => (if v8 = 0 then (f_X13_fail v2.1 2).bind fun v25 => some (v25.1, v25.2) else if 0 ≤ x1 ∧ x1 < 32 then if rng ((1 : Int) * 2 ^ x1.toNat) then (f_X13_walked N v2.1 ((1 : Int) * 2 ^ x1.toNat)).bind fun v12 => (f_X13_boardings_55 N v2.1 x2 N v12 0).bind (Sum.elim (fun v => some v) fun q23 => (f_X13_fail v2.1 2).bind fun v24 => some (v24.1, v24.2)) else none else none))) else some (v2.1, 0))
theorem ct_X13_boardings {l : Launch} {cy : ClassId} {ad : Nat → Nat} {G : va_G} (N : Nat) (σ : Sm) (x1 : Int) (x2 : Int) (h1 : rng x1) (h2 : rng x2) (hw : wfm σ) (o : Sm × Int) (h : f_X13_boardings N σ x1 x2 = some o) : CtI l yX13_boardings cX13_boardings 5 (some .int) rm_X13_boardings (wlm cy ad) wfm G (tym cy) [.ref (ad 0), vi x1, vi x2] σ o.1 o.2 := by
  refine ctI_of (by decide) (Nat.le_of_ble_eq_true rfl) hw o o h (fun X Y w => EndI X Y cX13_boardings rm_X13_boardings .int w) (fun _ _ h => h) (fun X A Q hX C => ?_)
  replace C : Cx X (Ym cy ad G A 5 Q) cX13_boardings RX13 (some .int) rm_X13_boardings (tym cy) := C
  show T X (Ym cy ad G A 5 Q) (fun w => EndI X (Ym cy ad G A 5 Q) cX13_boardings rm_X13_boardings .int w) 0 0 0 [(0, .ref (ad 0)), (1, vi x1), (2, vi x2)] [] σ (f_X13_boardings N σ x1 x2)
  unfold f_X13_boardings
  refine T_aload_n (pc := 0) C dX13_boardings_0 rfl 0 rfl ?_
  refine T_aload_n (pc := 1) C dX13_boardings_1 rfl 0 rfl ?_
  refine T_iload_n (pc := 2) C dX13_boardings_2 rfl 1 rfl ?_
  refine T_iload_n (pc := 3) C dX13_boardings_3 rfl 2 rfl ?_
  refine T_callVip (pc := 4) C [vi x1, vi x2] [.ref (ad 0)] (fun o h9 hw => ct_X13_areStops σ x1 x2 h1 h2 hw o h9) kw_184 cm_X13_areStops rcm rfl rfl (Nat.le_of_ble_eq_true rfl) (by decide) (a' := 0) (b' := 0) ⟨rfl, rfl⟩ dX13_boardings_4 (fun v1 hv1 => ?_)
  refine T_callVi (pc := 7) C [vi v1] [] (fun o h9 hw => ct_X13_checked σ v1 (bit_of_nar hv1) hw o h9) kw_321 cm_X13_checked rcm rfl rfl (Nat.le_of_ble_eq_true rfl) (by decide) (a' := 0) (b' := 0) ⟨rfl, rfl⟩ dX13_boardings_7 (fun v2 hv2 => ?_)
  refine T_if_le (pc := 10) C 15 dX13_boardings_10 rfl hv2.1 (fun c3 => ?_) (fun c3 => ?_)
  · refine T_iload_n (pc := 15) C dX13_boardings_15 rfl 1 rfl ?_
    refine T_iload_n (pc := 16) C dX13_boardings_16 rfl 2 rfl ?_
    refine T_icmp_ne (pc := 17) C 22 dX13_boardings_17 rfl h1 h2 (fun c4 => ?_) (fun c4 => ?_)
    · refine T_aload_n (pc := 22) C dX13_boardings_22 rfl 0 rfl ?_
      refine T_iload_n (pc := 23) C dX13_boardings_23 rfl 1 rfl ?_
      refine T_callVip (pc := 24) C [vi x1] [] (fun o h9 hw => ct_X13_isOpen v2.1 x1 h1 hw o h9) kw_325 cm_X13_isOpen rcm rfl rfl (Nat.le_of_ble_eq_true rfl) (by decide) (a' := 0) (b' := 0) ⟨rfl, rfl⟩ dX13_boardings_24 (fun v5 hv5 => ?_)
      refine T_if_eq (pc := 27) C 38 dX13_boardings_27 rfl hv5.1 (fun c6 => ?_) (fun c6 => ?_)
      · refine T_aload_n (pc := 38) C dX13_boardings_38 rfl 0 rfl ?_
        refine T_iconst (pc := 39) C dX13_boardings_39 ?_
        refine T_callVi (pc := 40) C [vi 2] [] (fun o h9 hw => ct_X13_fail v2.1 2 (rngL rfl) hw o h9) kw_181 cm_X13_fail rcm rfl rfl (Nat.le_of_ble_eq_true rfl) (by decide) (a' := 0) (b' := 0) ⟨rfl, rfl⟩ dX13_boardings_40 (fun v7 hv7 => ?_)
        exact T_iret (pc := 43) (v7.1, v7.2) (fun h9 => h9) hv7.1 (nar_I _) (by decide) dX13_boardings_43
      · refine T_aload_n (pc := 30) C dX13_boardings_30 rfl 0 rfl ?_
        refine T_iload_n (pc := 31) C dX13_boardings_31 rfl 2 rfl ?_
        refine T_callVip (pc := 32) C [vi x2] [] (fun o h9 hw => ct_X13_isOpen v2.1 x2 h2 hw o h9) kw_325 cm_X13_isOpen rcm rfl rfl (Nat.le_of_ble_eq_true rfl) (by decide) (a' := 0) (b' := 0) ⟨rfl, rfl⟩ dX13_boardings_32 (fun v8 hv8 => ?_)
        refine T_if_ne (pc := 35) C 44 dX13_boardings_35 rfl hv8.1 (fun c9 => ?_) (fun c9 => ?_)
        · refine T_aload_n (pc := 44) C dX13_boardings_44 rfl 0 rfl ?_
          refine T_iconst (pc := 45) C dX13_boardings_45 ?_
          refine T_iload_n (pc := 46) C dX13_boardings_46 rfl 1 rfl ?_
          refine T_guard (fun g10 => ?_)
          refine T_ishl (pc := 47) C g10 dX13_boardings_47 ?_
          refine T_guard (fun g11 => ?_)
          refine T_callVip (pc := 48) C [vi ((1 : Int) * 2 ^ x1.toNat)] [] (fun o h9 hw => ct_X13_walked N v2.1 ((1 : Int) * 2 ^ x1.toNat) g11 hw o h9) kw_381 cm_X13_walked rcm rfl rfl (Nat.le_of_ble_eq_true rfl) (by decide) (a' := 0) (b' := 0) ⟨rfl, rfl⟩ dX13_boardings_48 (fun v12 hv12 => ?_)
          refine T_istore_n (pc := 51) (L' := [(3, vi v12), (0, .ref (ad 0)), (1, vi x1), (2, vi x2)]) C dX13_boardings_51 rfl (Nat.le_of_ble_eq_true rfl) rfl ?_
          refine T_iconst (pc := 52) C dX13_boardings_52 ?_
          refine T_istore (pc := 53) (L' := [(4, vi 0), (3, vi v12), (0, .ref (ad 0)), (1, vi x1), (2, vi x2)]) C dX13_boardings_53 (Nat.le_of_ble_eq_true rfl) rfl ?_
          refine T_sub (L' := [(0, .ref (ad 0)), (2, vi x2), (3, vi v12), (4, vi 0)]) [2, 4, 1, 0] rfl ?_
          refine T_loopS (g := fun v => v) (lp_X13_boardings_55 C N v2.1 x2 h2 N v12 0 hv12.1 (rngL rfl)) (fun v h9 => h9) (fun q23 hq23 => ?_)
          refine T_aload_n (pc := 89) C dX13_boardings_89 rfl 0 rfl ?_
          refine T_iconst (pc := 90) C dX13_boardings_90 ?_
          refine T_callVi (pc := 91) C [vi 2] [] (fun o h9 hw => ct_X13_fail v2.1 2 (rngL rfl) hw o h9) kw_181 cm_X13_fail rcm rfl rfl (Nat.le_of_ble_eq_true rfl) (by decide) (a' := 0) (b' := 0) ⟨rfl, rfl⟩ dX13_boardings_91 (fun v24 hv24 => ?_)
          exact T_iret (pc := 94) (v24.1, v24.2) (fun h9 => h9) hv24.1 (nar_I _) (by decide) dX13_boardings_94
        · refine T_aload_n (pc := 38) C dX13_boardings_38 rfl 0 rfl ?_
          refine T_iconst (pc := 39) C dX13_boardings_39 ?_
          refine T_callVi (pc := 40) C [vi 2] [] (fun o h9 hw => ct_X13_fail v2.1 2 (rngL rfl) hw o h9) kw_181 cm_X13_fail rcm rfl rfl (Nat.le_of_ble_eq_true rfl) (by decide) (a' := 0) (b' := 0) ⟨rfl, rfl⟩ dX13_boardings_40 (fun v25 hv25 => ?_)
          exact T_iret (pc := 43) (v25.1, v25.2) (fun h9 => h9) hv25.1 (nar_I _) (by decide) dX13_boardings_43
    · refine T_iconst (pc := 20) C dX13_boardings_20 ?_
      exact T_iret (pc := 21) (v2.1, 0) (fun h9 => h9) (rngL rfl) (nar_I _) (by decide) dX13_boardings_21
  · refine T_iconst (pc := 13) C dX13_boardings_13 ?_
    exact T_iret (pc := 14) (v2.1, 0) (fun h9 => h9) (rngL rfl) (nar_I _) (by decide) dX13_boardings_14

abbrev rm_X13_fewestBoardings : Room := ⟨4, 0, 0, 94⟩
theorem cm_X13_fewestBoardings : cmV yX13_fewestBoardings cX13_fewestBoardings 3 (some .int) 2 := ⟨kw_89, kw_145, ⟨by decide +kernel, by decide +kernel, by decide +kernel⟩, kw_386, kw_387⟩
def f_X13_fewestBoardings (N : Nat) (σ : Sm) (x1 : Int) (x2 : Int) : Option (Sm × Int) :=
  (f_X13_boardings N σ x1 x2).bind fun v1 => some (v1.1, v1.2)
theorem ct_X13_fewestBoardings {l : Launch} {cy : ClassId} {ad : Nat → Nat} {G : va_G} (N : Nat) (σ : Sm) (x1 : Int) (x2 : Int) (h1 : rng x1) (h2 : rng x2) (hw : wfm σ) (o : Sm × Int) (h : f_X13_fewestBoardings N σ x1 x2 = some o) : CtI l yX13_fewestBoardings cX13_fewestBoardings 3 (some .int) rm_X13_fewestBoardings (wlm cy ad) wfm G (tym cy) [.ref (ad 0), vi x1, vi x2] σ o.1 o.2 := by
  refine ctI_of (by decide) (Nat.le_of_ble_eq_true rfl) hw o o h (fun X Y w => EndI X Y cX13_fewestBoardings rm_X13_fewestBoardings .int w) (fun _ _ h => h) (fun X A Q hX C => ?_)
  replace C : Cx X (Ym cy ad G A 3 Q) cX13_fewestBoardings RX13 (some .int) rm_X13_fewestBoardings (tym cy) := C
  show T X (Ym cy ad G A 3 Q) (fun w => EndI X (Ym cy ad G A 3 Q) cX13_fewestBoardings rm_X13_fewestBoardings .int w) 0 0 0 [(0, .ref (ad 0)), (1, vi x1), (2, vi x2)] [] σ (f_X13_fewestBoardings N σ x1 x2)
  unfold f_X13_fewestBoardings
  refine T_aload_n (pc := 0) C dX13_fewestBoardings_0 rfl 0 rfl ?_
  refine T_iload_n (pc := 1) C dX13_fewestBoardings_1 rfl 1 rfl ?_
  refine T_iload_n (pc := 2) C dX13_fewestBoardings_2 rfl 2 rfl ?_
  refine T_callVi (pc := 3) C [vi x1, vi x2] [] (fun o h9 hw => ct_X13_boardings N σ x1 x2 h1 h2 hw o h9) kw_385 cm_X13_boardings rcm rfl rfl (Nat.le_of_ble_eq_true rfl) (by decide) (a' := 0) (b' := 0) ⟨rfl, rfl⟩ dX13_fewestBoardings_3 (fun v1 hv1 => ?_)
  exact T_iret (pc := 6) (v1.1, v1.2) (fun h9 => h9) hv1.1 (nar_I _) (by decide) dX13_fewestBoardings_6

abbrev rm_X13_fewestBoardingsByTable : Room := ⟨4, 0, 0, 94⟩
theorem cm_X13_fewestBoardingsByTable : cmV yX13_fewestBoardingsByTable cX13_fewestBoardingsByTable 3 (some .int) 2 := ⟨kw_90, kw_145, ⟨by decide +kernel, by decide +kernel, by decide +kernel⟩, kw_388, kw_389⟩
def f_X13_fewestBoardingsByTable (N : Nat) (σ : Sm) (x1 : Int) (x2 : Int) : Option (Sm × Int) :=
  (f_X13_boardings N σ x1 x2).bind fun v1 => some (v1.1, v1.2)
theorem ct_X13_fewestBoardingsByTable {l : Launch} {cy : ClassId} {ad : Nat → Nat} {G : va_G} (N : Nat) (σ : Sm) (x1 : Int) (x2 : Int) (h1 : rng x1) (h2 : rng x2) (hw : wfm σ) (o : Sm × Int) (h : f_X13_fewestBoardingsByTable N σ x1 x2 = some o) : CtI l yX13_fewestBoardingsByTable cX13_fewestBoardingsByTable 3 (some .int) rm_X13_fewestBoardingsByTable (wlm cy ad) wfm G (tym cy) [.ref (ad 0), vi x1, vi x2] σ o.1 o.2 := by
  refine ctI_of (by decide) (Nat.le_of_ble_eq_true rfl) hw o o h (fun X Y w => EndI X Y cX13_fewestBoardingsByTable rm_X13_fewestBoardingsByTable .int w) (fun _ _ h => h) (fun X A Q hX C => ?_)
  replace C : Cx X (Ym cy ad G A 3 Q) cX13_fewestBoardingsByTable RX13 (some .int) rm_X13_fewestBoardingsByTable (tym cy) := C
  show T X (Ym cy ad G A 3 Q) (fun w => EndI X (Ym cy ad G A 3 Q) cX13_fewestBoardingsByTable rm_X13_fewestBoardingsByTable .int w) 0 0 0 [(0, .ref (ad 0)), (1, vi x1), (2, vi x2)] [] σ (f_X13_fewestBoardingsByTable N σ x1 x2)
  unfold f_X13_fewestBoardingsByTable
  refine T_aload_n (pc := 0) C dX13_fewestBoardingsByTable_0 rfl 0 rfl ?_
  refine T_iload_n (pc := 1) C dX13_fewestBoardingsByTable_1 rfl 1 rfl ?_
  refine T_iload_n (pc := 2) C dX13_fewestBoardingsByTable_2 rfl 2 rfl ?_
  refine T_callVi (pc := 3) C [vi x1, vi x2] [] (fun o h9 hw => ct_X13_boardings N σ x1 x2 h1 h2 hw o h9) kw_385 cm_X13_boardings rcm rfl rfl (Nat.le_of_ble_eq_true rfl) (by decide) (a' := 0) (b' := 0) ⟨rfl, rfl⟩ dX13_fewestBoardingsByTable_3 (fun v1 hv1 => ?_)
  exact T_iret (pc := 6) (v1.1, v1.2) (fun h9 => h9) hv1.1 (nar_I _) (by decide) dX13_fewestBoardingsByTable_6

abbrev rm_X13_cutOf : Room := ⟨2, 0, 0, 44⟩
theorem cm_X13_cutOf : cmV yX13_cutOf cX13_cutOf 5 (some .int) 1 := ⟨kw_91, kw_145, ⟨by decide +kernel, by decide +kernel, by decide +kernel⟩, kw_390, kw_391⟩
def f_X13_cutOf_28 (σ : Sm) (x1 : Int) (x3 : Int) : Nat → Int → Int → Option (Int)
  | 0, _, _ => none
  | n + 1, x2, x4 => (f_X13_l σ x3 5).bind fun v80 => (if v80 ≤ x4 then some x2 else (f_X13_at σ x3 x4).bind fun v82 => (f_X13_has x1 v82).bind fun v83 => (if v83 = 0 then bl (x2 + 0) fun v85 => if rng v85 then f_X13_cutOf_28 σ x1 x3 n v85 (x4 + 1) else none else (f_X13_at σ x3 (x4 + 1)).bind fun v87 => (f_X13_has x1 v87).bind fun v88 => (if v88 = 0 then (f_X13_l σ x3 4).bind fun v92 => bl (x2 + v92) fun v93 => if rng v93 then f_X13_cutOf_28 σ x1 x3 n v93 (x4 + 1) else none else bl (x2 + 0) fun v90 => if rng v90 then f_X13_cutOf_28 σ x1 x3 n v90 (x4 + 1) else none)))
theorem lp_X13_cutOf_28 {X : vjX} {A : Nat → Prop} {Q : State → Prop} {cy : ClassId} {ad : Nat → Nat} {G : va_G} (C : Cx X (Ym cy ad G A 5 Q) cX13_cutOf RX13 (some .int) rm_X13_cutOf (tym cy)) (σ : Sm) (x1 : Int) (x3 : Int) (h1 : rng x1) (h3 : rng x3) : ∀ (n : Nat) (x2 : Int) (x4 : Int) (h2 : rng x2) (h4 : rng x4), T X (Ym cy ad G A 5 Q) (fun (q : Int) => rng q → J X (Ym cy ad G A 5 Q) 0 0 88 [(0, .ref (ad 0)), (1, vi x1), (2, vi q), (3, vi x3)] [] σ) 0 0 28 [(0, .ref (ad 0)), (1, vi x1), (2, vi x2), (3, vi x3), (4, vi x4)] [] σ (f_X13_cutOf_28 σ x1 x3 n x2 x4) := by
  intro n
  induction n with
  | zero => intro x2 x4 h2 h4; exact T_none
  | succ n ih =>
    intro x2 x4 h2 h4
    rw [f_X13_cutOf_28]
    refine T_iload (pc := 28) C dX13_cutOf_28 4 rfl ?_
    refine T_aload_n (pc := 30) C dX13_cutOf_30 rfl 0 rfl ?_
    refine T_iload_n (pc := 31) C dX13_cutOf_31 rfl 3 rfl ?_
    refine T_iconst (pc := 32) C dX13_cutOf_32 ?_
    refine T_callVip (pc := 33) C [vi x3, vi 5] [vi x4] (fun o h9 hw => ct_X13_l σ x3 5 h3 (rngL rfl) hw o h9) kw_211 cm_X13_l rcm rfl rfl (Nat.le_of_ble_eq_true rfl) (by decide) (a' := 0) (b' := 0) ⟨rfl, rfl⟩ dX13_cutOf_33 (fun v80 hv80 => ?_)
    refine T_icmp_ge (pc := 36) C 88 dX13_cutOf_36 rfl h4 hv80.1 (fun c81 => ?_) (fun c81 => ?_)
    · refine T_sub (L' := [(0, .ref (ad 0)), (1, vi x1), (2, vi x2), (3, vi x3)]) [0, 1, 2, 3] rfl ?_
      exact T_exit (fun h9 => h9 h2)
    · refine T_iload_n (pc := 39) C dX13_cutOf_39 rfl 2 rfl ?_
      refine T_iload_n (pc := 40) C dX13_cutOf_40 rfl 1 rfl ?_
      refine T_aload_n (pc := 41) C dX13_cutOf_41 rfl 0 rfl ?_
      refine T_iload_n (pc := 42) C dX13_cutOf_42 rfl 3 rfl ?_
      refine T_iload (pc := 43) C dX13_cutOf_43 4 rfl ?_
      refine T_callVip (pc := 45) C [vi x3, vi x4] [vi x1, vi x2] (fun o h9 hw => ct_X13_at σ x3 x4 h3 h4 hw o h9) kw_334 cm_X13_at rcm rfl rfl (Nat.le_of_ble_eq_true rfl) (by decide) (a' := 0) (b' := 0) ⟨rfl, rfl⟩ dX13_cutOf_45 (fun v82 hv82 => ?_)
      refine T_callSip (pc := 48) C [vi x1, vi v82] [vi x2] (fun o h9 hw => ct_X13_has σ x1 v82 h1 hv82.1 hw o h9) kw_376 cm_X13_has rfl rfl (Nat.le_of_ble_eq_true rfl) (by decide) (a' := 0) (b' := 0) ⟨rfl, rfl⟩ dX13_cutOf_48 (fun v83 hv83 => ?_)
      refine T_if_eq (pc := 51) C 79 dX13_cutOf_51 rfl hv83.1 (fun c84 => ?_) (fun c84 => ?_)
      · refine T_iconst (pc := 79) C dX13_cutOf_79 ?_
        refine T_iadd (pc := 80) C dX13_cutOf_80 ?_
        refine T_blN (fun v85 => ?_)
        refine T_istore_n (pc := 81) (L' := [(2, vi v85), (0, .ref (ad 0)), (1, vi x1), (3, vi x3), (4, vi x4)]) C dX13_cutOf_81 rfl (Nat.le_of_ble_eq_true rfl) rfl ?_
        refine T_iinc (pc := 82) (L' := [(4, vi (x4 + 1)), (2, vi v85), (0, .ref (ad 0)), (1, vi x1), (3, vi x3)]) C dX13_cutOf_82 (Nat.le_of_ble_eq_true rfl) 4 rfl rfl ?_
        refine T_goto (pc := 85) C 28 dX13_cutOf_85 rfl ?_
        refine T_sub (L' := [(0, .ref (ad 0)), (1, vi x1), (2, vi v85), (3, vi x3), (4, vi (x4 + 1))]) [2, 3, 1, 4, 0] rfl ?_
        refine T_guard (fun g86 => ?_)
        exact ih v85 (x4 + 1) g86 (rng_inc c81 h4 hv80.1)
      · refine T_iload_n (pc := 54) C dX13_cutOf_54 rfl 1 rfl ?_
        refine T_aload_n (pc := 55) C dX13_cutOf_55 rfl 0 rfl ?_
        refine T_iload_n (pc := 56) C dX13_cutOf_56 rfl 3 rfl ?_
        refine T_iload (pc := 57) C dX13_cutOf_57 4 rfl ?_
        refine T_iconst (pc := 59) C dX13_cutOf_59 ?_
        refine T_iadd (pc := 60) C dX13_cutOf_60 ?_
        refine T_callVip (pc := 61) C [vi x3, vi (x4 + 1)] [vi x1, vi x2] (fun o h9 hw => ct_X13_at σ x3 (x4 + 1) h3 (rng_inc c81 h4 hv80.1) hw o h9) kw_334 cm_X13_at rcm rfl rfl (Nat.le_of_ble_eq_true rfl) (by decide) (a' := 0) (b' := 0) ⟨rfl, rfl⟩ dX13_cutOf_61 (fun v87 hv87 => ?_)
        refine T_callSip (pc := 64) C [vi x1, vi v87] [vi x2] (fun o h9 hw => ct_X13_has σ x1 v87 h1 hv87.1 hw o h9) kw_376 cm_X13_has rfl rfl (Nat.le_of_ble_eq_true rfl) (by decide) (a' := 0) (b' := 0) ⟨rfl, rfl⟩ dX13_cutOf_64 (fun v88 hv88 => ?_)
        refine T_if_ne (pc := 67) C 79 dX13_cutOf_67 rfl hv88.1 (fun c89 => ?_) (fun c89 => ?_)
        · refine T_iconst (pc := 79) C dX13_cutOf_79 ?_
          refine T_iadd (pc := 80) C dX13_cutOf_80 ?_
          refine T_blN (fun v90 => ?_)
          refine T_istore_n (pc := 81) (L' := [(2, vi v90), (0, .ref (ad 0)), (1, vi x1), (3, vi x3), (4, vi x4)]) C dX13_cutOf_81 rfl (Nat.le_of_ble_eq_true rfl) rfl ?_
          refine T_iinc (pc := 82) (L' := [(4, vi (x4 + 1)), (2, vi v90), (0, .ref (ad 0)), (1, vi x1), (3, vi x3)]) C dX13_cutOf_82 (Nat.le_of_ble_eq_true rfl) 4 rfl rfl ?_
          refine T_goto (pc := 85) C 28 dX13_cutOf_85 rfl ?_
          refine T_sub (L' := [(0, .ref (ad 0)), (1, vi x1), (2, vi v90), (3, vi x3), (4, vi (x4 + 1))]) [2, 3, 1, 4, 0] rfl ?_
          refine T_guard (fun g91 => ?_)
          exact ih v90 (x4 + 1) g91 (rng_inc c81 h4 hv80.1)
        · refine T_aload_n (pc := 70) C dX13_cutOf_70 rfl 0 rfl ?_
          refine T_iload_n (pc := 71) C dX13_cutOf_71 rfl 3 rfl ?_
          refine T_iconst (pc := 72) C dX13_cutOf_72 ?_
          refine T_callVip (pc := 73) C [vi x3, vi 4] [vi x2] (fun o h9 hw => ct_X13_l σ x3 4 h3 (rngL rfl) hw o h9) kw_211 cm_X13_l rcm rfl rfl (Nat.le_of_ble_eq_true rfl) (by decide) (a' := 0) (b' := 0) ⟨rfl, rfl⟩ dX13_cutOf_73 (fun v92 hv92 => ?_)
          refine T_goto (pc := 76) C 80 dX13_cutOf_76 rfl ?_
          refine T_iadd (pc := 80) C dX13_cutOf_80 ?_
          refine T_blN (fun v93 => ?_)
          refine T_istore_n (pc := 81) (L' := [(2, vi v93), (0, .ref (ad 0)), (1, vi x1), (3, vi x3), (4, vi x4)]) C dX13_cutOf_81 rfl (Nat.le_of_ble_eq_true rfl) rfl ?_
          refine T_iinc (pc := 82) (L' := [(4, vi (x4 + 1)), (2, vi v93), (0, .ref (ad 0)), (1, vi x1), (3, vi x3)]) C dX13_cutOf_82 (Nat.le_of_ble_eq_true rfl) 4 rfl rfl ?_
          refine T_goto (pc := 85) C 28 dX13_cutOf_85 rfl ?_
          refine T_sub (L' := [(0, .ref (ad 0)), (1, vi x1), (2, vi v93), (3, vi x3), (4, vi (x4 + 1))]) [2, 3, 1, 4, 0] rfl ?_
          refine T_guard (fun g94 => ?_)
          exact ih v93 (x4 + 1) g94 (rng_inc c81 h4 hv80.1)
def f_X13_cutOf_4 (N : Nat) (σ : Sm) (x1 : Int) : Nat → Int → Int → Option (Int)
  | 0, _, _ => none
  | n + 1, x2, x3 => (if (σ 1 2) ≤ x3 then some x2 else (f_X13_isRunning σ x3).bind fun v69 => (if v69 = 0 then f_X13_cutOf_4 N σ x1 n x2 (x3 + 1) else (f_X13_cutOf_28 σ x1 x3 N x2 0).bind fun q95 => f_X13_cutOf_4 N σ x1 n q95 (x3 + 1)))
theorem lp_X13_cutOf_4 {X : vjX} {A : Nat → Prop} {Q : State → Prop} {cy : ClassId} {ad : Nat → Nat} {G : va_G} (C : Cx X (Ym cy ad G A 5 Q) cX13_cutOf RX13 (some .int) rm_X13_cutOf (tym cy)) (N : Nat) (σ : Sm) (x1 : Int) (h1 : rng x1) : ∀ (n : Nat) (x2 : Int) (x3 : Int) (h2 : rng x2) (h3 : rng x3), T X (Ym cy ad G A 5 Q) (fun (q : Int) => rng q → J X (Ym cy ad G A 5 Q) 0 0 94 [(2, vi q)] [] σ) 0 0 4 [(0, .ref (ad 0)), (1, vi x1), (2, vi x2), (3, vi x3)] [] σ (f_X13_cutOf_4 N σ x1 n x2 x3) := by
  intro n
  induction n with
  | zero => intro x2 x3 h2 h3; exact T_none
  | succ n ih =>
    intro x2 x3 h2 h3
    rw [f_X13_cutOf_4]
    refine T_iload_n (pc := 4) C dX13_cutOf_4 rfl 3 rfl ?_
    refine T_aload_n (pc := 5) C dX13_cutOf_5 rfl 0 rfl ?_
    refine Tm_getA (pc := 6) C 0 1 (by decide) (fun _ => rfl) kw_152 rfl dX13_cutOf_6 ?_
    refine T_iconst (pc := 9) C dX13_cutOf_9 ?_
    refine Tm_iald (pc := 10) C 1 2 ⟨by decide, by decide⟩ ⟨by decide, by decide⟩ rfl dX13_cutOf_10 (fun r67 => ?_)
    refine T_icmp_ge (pc := 11) C 94 dX13_cutOf_11 rfl h3 r67 (fun c68 => ?_) (fun c68 => ?_)
    · refine T_sub (L' := [(2, vi x2)]) [2] rfl ?_
      exact T_exit (fun h9 => h9 h2)
    · refine T_aload_n (pc := 14) C dX13_cutOf_14 rfl 0 rfl ?_
      refine T_iload_n (pc := 15) C dX13_cutOf_15 rfl 3 rfl ?_
      refine T_callVip (pc := 16) C [vi x3] [] (fun o h9 hw => ct_X13_isRunning σ x3 h3 hw o h9) kw_283 cm_X13_isRunning rcm rfl rfl (Nat.le_of_ble_eq_true rfl) (by decide) (a' := 0) (b' := 0) ⟨rfl, rfl⟩ dX13_cutOf_16 (fun v69 hv69 => ?_)
      refine T_if_ne (pc := 19) C 25 dX13_cutOf_19 rfl hv69.1 (fun c70 => ?_) (fun c70 => ?_)
      · refine T_iconst (pc := 25) C dX13_cutOf_25 ?_
        refine T_istore (pc := 26) (L' := [(4, vi 0), (0, .ref (ad 0)), (1, vi x1), (2, vi x2), (3, vi x3)]) C dX13_cutOf_26 (Nat.le_of_ble_eq_true rfl) rfl ?_
        refine T_sub (L' := [(0, .ref (ad 0)), (1, vi x1), (2, vi x2), (3, vi x3), (4, vi 0)]) [1, 2, 3, 4, 0] rfl ?_
        refine T_loopE (lp_X13_cutOf_28 C σ x1 x3 h1 h3 N x2 0 h2 (rngL rfl)) (fun q95 hq95 => ?_)
        refine T_iinc (pc := 88) (L' := [(3, vi (x3 + 1)), (0, .ref (ad 0)), (1, vi x1), (2, vi q95)]) C dX13_cutOf_88 (Nat.le_of_ble_eq_true rfl) 3 rfl rfl ?_
        refine T_goto (pc := 91) C 4 dX13_cutOf_91 rfl ?_
        refine T_sub (L' := [(0, .ref (ad 0)), (1, vi x1), (2, vi q95), (3, vi (x3 + 1))]) [1, 2, 3, 0] rfl ?_
        exact ih q95 (x3 + 1) hq95 (rng_inc c68 h3 r67)
      · refine T_goto (pc := 22) C 88 dX13_cutOf_22 rfl ?_
        refine T_iinc (pc := 88) (L' := [(3, vi (x3 + 1)), (0, .ref (ad 0)), (1, vi x1), (2, vi x2)]) C dX13_cutOf_88 (Nat.le_of_ble_eq_true rfl) 3 rfl rfl ?_
        refine T_goto (pc := 91) C 4 dX13_cutOf_91 rfl ?_
        refine T_sub (L' := [(0, .ref (ad 0)), (1, vi x1), (2, vi x2), (3, vi (x3 + 1))]) [1, 2, 3, 0] rfl ?_
        exact ih x2 (x3 + 1) h2 (rng_inc c68 h3 r67)
def f_X13_cutOf (N : Nat) (σ : Sm) (x1 : Int) : Option Int :=
  (f_X13_cutOf_4 N σ x1 N 0 0).bind fun q96 => some q96
theorem ct_X13_cutOf {l : Launch} {cy : ClassId} {ad : Nat → Nat} {G : va_G} (N : Nat) (σ : Sm) (x1 : Int) (h1 : rng x1) (hw : wfm σ) (o : Int) (h : f_X13_cutOf N σ x1 = some o) : CtI l yX13_cutOf cX13_cutOf 5 (some .int) rm_X13_cutOf (wlm cy ad) wfm G (tym cy) [.ref (ad 0), vi x1] σ σ o := by
  refine ctI_of (by decide) (Nat.le_of_ble_eq_true rfl) hw (σ, o) o h (fun X Y v => EndI X Y cX13_cutOf rm_X13_cutOf .int (σ, v)) (fun _ _ h => h) (fun X A Q hX C => ?_)
  replace C : Cx X (Ym cy ad G A 5 Q) cX13_cutOf RX13 (some .int) rm_X13_cutOf (tym cy) := C
  show T X (Ym cy ad G A 5 Q) (fun v => EndI X (Ym cy ad G A 5 Q) cX13_cutOf rm_X13_cutOf .int (σ, v)) 0 0 0 [(0, .ref (ad 0)), (1, vi x1)] [] σ (f_X13_cutOf N σ x1)
  unfold f_X13_cutOf
  refine T_iconst (pc := 0) C dX13_cutOf_0 ?_
  refine T_istore_n (pc := 1) (L' := [(2, vi 0), (0, .ref (ad 0)), (1, vi x1)]) C dX13_cutOf_1 rfl (Nat.le_of_ble_eq_true rfl) rfl ?_
  refine T_iconst (pc := 2) C dX13_cutOf_2 ?_
  refine T_istore_n (pc := 3) (L' := [(3, vi 0), (2, vi 0), (0, .ref (ad 0)), (1, vi x1)]) C dX13_cutOf_3 rfl (Nat.le_of_ble_eq_true rfl) rfl ?_
  refine T_sub (L' := [(0, .ref (ad 0)), (1, vi x1), (2, vi 0), (3, vi 0)]) [2, 3, 1, 0] rfl ?_
  refine T_loopE (lp_X13_cutOf_4 C N σ x1 h1 N 0 0 (rngL rfl) (rngL rfl)) (fun q96 hq96 => ?_)
  refine T_iload_n (pc := 94) C dX13_cutOf_94 rfl 0 rfl ?_
  exact T_iret (pc := 95) q96 (fun h9 => h9) hq96 (nar_I _) (by decide) dX13_cutOf_95

abbrev rm_X13_cut : Room := ⟨3, 0, 0, 68⟩
theorem cm_X13_cut : cmV yX13_cut cX13_cut 6 (some .int) 2 := ⟨kw_92, kw_145, ⟨by decide +kernel, by decide +kernel, by decide +kernel⟩, kw_393, kw_394⟩
def f_X13_cut_42 (N : Nat) (σ : Sm) (x1 : Int) (x2 : Int) : Nat → Int → Int → Option (Int)
  | 0, _, _ => none
  | n + 1, x3, x4 => if 0 ≤ (σ 1 0) ∧ (σ 1 0) < 32 then if rng ((1 : Int) * 2 ^ (σ 1 0).toNat) then (if ((1 : Int) * 2 ^ (σ 1 0).toNat) ≤ x4 then some x3 else (f_X13_has x4 x1).bind fun v21 => (if v21 = 0 then f_X13_cut_42 N σ x1 x2 n x3 (x4 + 1) else (f_X13_has x4 x2).bind fun v23 => (if v23 = 0 then (f_X13_cutOf N σ x4).bind fun v25 => (if x3 ≤ v25 then f_X13_cut_42 N σ x1 x2 n x3 (x4 + 1) else f_X13_cut_42 N σ x1 x2 n v25 (x4 + 1)) else f_X13_cut_42 N σ x1 x2 n x3 (x4 + 1)))) else none else none
theorem lp_X13_cut_42 {X : vjX} {A : Nat → Prop} {Q : State → Prop} {cy : ClassId} {ad : Nat → Nat} {G : va_G} (C : Cx X (Ym cy ad G A 6 Q) cX13_cut RX13 (some .int) rm_X13_cut (tym cy)) (N : Nat) (σ : Sm) (x1 : Int) (x2 : Int) (h1 : rng x1) (h2 : rng x2) : ∀ (n : Nat) (x3 : Int) (x4 : Int) (h3 : rng x3) (h4 : rng x4), T X (Ym cy ad G A 6 Q) (fun (q : Int) => rng q → J X (Ym cy ad G A 6 Q) 0 0 103 [(3, vi q)] [] σ) 0 0 42 [(0, .ref (ad 0)), (1, vi x1), (2, vi x2), (3, vi x3), (4, vi x4)] [] σ (f_X13_cut_42 N σ x1 x2 n x3 x4) := by
  intro n
  induction n with
  | zero => intro x3 x4 h3 h4; exact T_none
  | succ n ih =>
    intro x3 x4 h3 h4
    rw [f_X13_cut_42]
    refine T_iload (pc := 42) C dX13_cut_42 4 rfl ?_
    refine T_iconst (pc := 44) C dX13_cut_44 ?_
    refine T_aload_n (pc := 45) C dX13_cut_45 rfl 0 rfl ?_
    refine Tm_getA (pc := 46) C 0 1 (by decide) (fun _ => rfl) kw_152 rfl dX13_cut_46 ?_
    refine T_iconst (pc := 49) C dX13_cut_49 ?_
    refine Tm_iald (pc := 50) C 1 0 ⟨by decide, by decide⟩ ⟨by decide, by decide⟩ rfl dX13_cut_50 (fun r17 => ?_)
    refine T_guard (fun g18 => ?_)
    refine T_ishl (pc := 51) C g18 dX13_cut_51 ?_
    refine T_guard (fun g19 => ?_)
    refine T_icmp_ge (pc := 52) C 103 dX13_cut_52 rfl h4 g19 (fun c20 => ?_) (fun c20 => ?_)
    · refine T_sub (L' := [(3, vi x3)]) [3] rfl ?_
      exact T_exit (fun h9 => h9 h3)
    · refine T_iload (pc := 55) C dX13_cut_55 4 rfl ?_
      refine T_iload_n (pc := 57) C dX13_cut_57 rfl 1 rfl ?_
      refine T_callSip (pc := 58) C [vi x4, vi x1] [] (fun o h9 hw => ct_X13_has σ x4 x1 h4 h1 hw o h9) kw_376 cm_X13_has rfl rfl (Nat.le_of_ble_eq_true rfl) (by decide) (a' := 0) (b' := 0) ⟨rfl, rfl⟩ dX13_cut_58 (fun v21 hv21 => ?_)
      refine T_if_eq (pc := 61) C 97 dX13_cut_61 rfl hv21.1 (fun c22 => ?_) (fun c22 => ?_)
      · refine T_iinc (pc := 97) (L' := [(4, vi (x4 + 1)), (0, .ref (ad 0)), (1, vi x1), (2, vi x2), (3, vi x3)]) C dX13_cut_97 (Nat.le_of_ble_eq_true rfl) 4 rfl rfl ?_
        refine T_goto (pc := 100) C 42 dX13_cut_100 rfl ?_
        refine T_sub (L' := [(0, .ref (ad 0)), (1, vi x1), (2, vi x2), (3, vi x3), (4, vi (x4 + 1))]) [1, 2, 3, 4, 0] rfl ?_
        exact ih x3 (x4 + 1) h3 (rng_inc c20 h4 g19)
      · refine T_iload (pc := 64) C dX13_cut_64 4 rfl ?_
        refine T_iload_n (pc := 66) C dX13_cut_66 rfl 2 rfl ?_
        refine T_callSip (pc := 67) C [vi x4, vi x2] [] (fun o h9 hw => ct_X13_has σ x4 x2 h4 h2 hw o h9) kw_376 cm_X13_has rfl rfl (Nat.le_of_ble_eq_true rfl) (by decide) (a' := 0) (b' := 0) ⟨rfl, rfl⟩ dX13_cut_67 (fun v23 hv23 => ?_)
        refine T_if_eq (pc := 70) C 76 dX13_cut_70 rfl hv23.1 (fun c24 => ?_) (fun c24 => ?_)
        · refine T_aload_n (pc := 76) C dX13_cut_76 rfl 0 rfl ?_
          refine T_iload (pc := 77) C dX13_cut_77 4 rfl ?_
          refine T_callVip (pc := 79) C [vi x4] [] (fun o h9 hw => ct_X13_cutOf N σ x4 h4 hw o h9) kw_392 cm_X13_cutOf rcm rfl rfl (Nat.le_of_ble_eq_true rfl) (by decide) (a' := 0) (b' := 0) ⟨rfl, rfl⟩ dX13_cut_79 (fun v25 hv25 => ?_)
          refine T_istore (pc := 82) (L' := [(5, vi v25), (0, .ref (ad 0)), (1, vi x1), (2, vi x2), (3, vi x3), (4, vi x4)]) C dX13_cut_82 (Nat.le_of_ble_eq_true rfl) rfl ?_
          refine T_iload (pc := 84) C dX13_cut_84 0 rfl ?_
          refine T_iload_n (pc := 86) C dX13_cut_86 rfl 4 rfl ?_
          refine T_icmp_ge (pc := 87) C 95 dX13_cut_87 rfl hv25.1 h3 (fun c26 => ?_) (fun c26 => ?_)
          · refine T_iload_n (pc := 95) C dX13_cut_95 rfl 4 rfl ?_
            refine T_istore_n (pc := 96) (L' := [(3, vi x3), (5, vi v25), (0, .ref (ad 0)), (1, vi x1), (2, vi x2), (4, vi x4)]) C dX13_cut_96 rfl (Nat.le_of_ble_eq_true rfl) rfl ?_
            refine T_iinc (pc := 97) (L' := [(4, vi (x4 + 1)), (3, vi x3), (5, vi v25), (0, .ref (ad 0)), (1, vi x1), (2, vi x2)]) C dX13_cut_97 (Nat.le_of_ble_eq_true rfl) 5 rfl rfl ?_
            refine T_goto (pc := 100) C 42 dX13_cut_100 rfl ?_
            refine T_sub (L' := [(0, .ref (ad 0)), (1, vi x1), (2, vi x2), (3, vi x3), (4, vi (x4 + 1))]) [3, 4, 5, 1, 0] rfl ?_
            exact ih x3 (x4 + 1) h3 (rng_inc c20 h4 g19)
          · refine T_iload (pc := 90) C dX13_cut_90 0 rfl ?_
            refine T_goto (pc := 92) C 96 dX13_cut_92 rfl ?_
            refine T_istore_n (pc := 96) (L' := [(3, vi v25), (5, vi v25), (0, .ref (ad 0)), (1, vi x1), (2, vi x2), (4, vi x4)]) C dX13_cut_96 rfl (Nat.le_of_ble_eq_true rfl) rfl ?_
            refine T_iinc (pc := 97) (L' := [(4, vi (x4 + 1)), (3, vi v25), (5, vi v25), (0, .ref (ad 0)), (1, vi x1), (2, vi x2)]) C dX13_cut_97 (Nat.le_of_ble_eq_true rfl) 5 rfl rfl ?_
            refine T_goto (pc := 100) C 42 dX13_cut_100 rfl ?_
            refine T_sub (L' := [(0, .ref (ad 0)), (1, vi x1), (2, vi x2), (3, vi v25), (4, vi (x4 + 1))]) [3, 4, 5, 1, 0] rfl ?_
            exact ih v25 (x4 + 1) hv25.1 (rng_inc c20 h4 g19)
        · refine T_goto (pc := 73) C 97 dX13_cut_73 rfl ?_
          refine T_iinc (pc := 97) (L' := [(4, vi (x4 + 1)), (0, .ref (ad 0)), (1, vi x1), (2, vi x2), (3, vi x3)]) C dX13_cut_97 (Nat.le_of_ble_eq_true rfl) 4 rfl rfl ?_
          refine T_goto (pc := 100) C 42 dX13_cut_100 rfl ?_
          refine T_sub (L' := [(0, .ref (ad 0)), (1, vi x1), (2, vi x2), (3, vi x3), (4, vi (x4 + 1))]) [1, 2, 3, 4, 0] rfl ?_
          exact ih x3 (x4 + 1) h3 (rng_inc c20 h4 g19)
def f_X13_cut (N : Nat) (σ : Sm) (x1 : Int) (x2 : Int) : Option (Sm × Int) :=
  (f_X13_areStops σ x1 x2).bind fun v1 => (if v1 = 0 then bl (upm σ 11 0 1) fun s32 => (if (s32 11 0) ≤ 0 then (f_X13_cut_42 N s32 x1 x2 N 1000000000 0).bind fun q35 => some (s32, q35) else some (s32, 0)) else (if x1 = x2 then bl (upm σ 11 0 2) fun s28 => (if (s28 11 0) ≤ 0 then (f_X13_cut_42 N s28 x1 x2 N 1000000000 0).bind fun q31 => some (s28, q31) else some (s28, 0)) else bl (upm σ 11 0 0) fun s4 => (if (s4 11 0) ≤ 0 then (f_X13_cut_42 N s4 x1 x2 N 1000000000 0).bind fun q27 => some (s4, q27) else some (s4, 0))))
theorem ct_X13_cut {l : Launch} {cy : ClassId} {ad : Nat → Nat} {G : va_G} (N : Nat) (σ : Sm) (x1 : Int) (x2 : Int) (h1 : rng x1) (h2 : rng x2) (hw : wfm σ) (o : Sm × Int) (h : f_X13_cut N σ x1 x2 = some o) : CtI l yX13_cut cX13_cut 6 (some .int) rm_X13_cut (wlm cy ad) wfm G (tym cy) [.ref (ad 0), vi x1, vi x2] σ o.1 o.2 := by
  refine ctI_of (by decide) (Nat.le_of_ble_eq_true rfl) hw o o h (fun X Y w => EndI X Y cX13_cut rm_X13_cut .int w) (fun _ _ h => h) (fun X A Q hX C => ?_)
  replace C : Cx X (Ym cy ad G A 6 Q) cX13_cut RX13 (some .int) rm_X13_cut (tym cy) := C
  show T X (Ym cy ad G A 6 Q) (fun w => EndI X (Ym cy ad G A 6 Q) cX13_cut rm_X13_cut .int w) 0 0 0 [(0, .ref (ad 0)), (1, vi x1), (2, vi x2)] [] σ (f_X13_cut N σ x1 x2)
  unfold f_X13_cut
  refine T_aload_n (pc := 0) C dX13_cut_0 rfl 0 rfl ?_
  refine T_aload_n (pc := 1) C dX13_cut_1 rfl 0 rfl ?_
  refine T_iload_n (pc := 2) C dX13_cut_2 rfl 1 rfl ?_
  refine T_iload_n (pc := 3) C dX13_cut_3 rfl 2 rfl ?_
  refine T_callVip (pc := 4) C [vi x1, vi x2] [.ref (ad 0)] (fun o h9 hw => ct_X13_areStops σ x1 x2 h1 h2 hw o h9) kw_184 cm_X13_areStops rcm rfl rfl (Nat.le_of_ble_eq_true rfl) (by decide) (a' := 0) (b' := 0) ⟨rfl, rfl⟩ dX13_cut_4 (fun v1 hv1 => ?_)
  refine T_if_ne (pc := 7) C 14 dX13_cut_7 rfl hv1.1 (fun c2 => ?_) (fun c2 => ?_)
  · refine T_iload_n (pc := 14) C dX13_cut_14 rfl 1 rfl ?_
    refine T_iload_n (pc := 15) C dX13_cut_15 rfl 2 rfl ?_
    refine T_icmp_ne (pc := 16) C 23 dX13_cut_16 rfl h1 h2 (fun c3 => ?_) (fun c3 => ?_)
    · refine T_iconst (pc := 23) C dX13_cut_23 ?_
      refine Tm_put (pc := 24) C (ty := .int) 11 ⟨by decide, by decide⟩ (rngL rfl) kw_144 rfl (nar_I _) (fit_I _) dX13_cut_24 ?_
      refine T_blS (fun s4 => ?_)
      refine T_aload_n (pc := 27) C dX13_cut_27 rfl 0 rfl ?_
      refine Tm_get (pc := 28) C 11 ⟨by decide, by decide⟩ kw_144 dX13_cut_28 (fun r5 => ?_)
      refine T_if_le (pc := 31) C 36 dX13_cut_31 rfl r5 (fun c6 => ?_) (fun c6 => ?_)
      · refine T_ldc (pc := 36) C 1000000000 dX13_cut_36 kw_357 (by decide) ?_
        refine T_istore_n (pc := 38) (L' := [(3, vi 1000000000), (0, .ref (ad 0)), (1, vi x1), (2, vi x2)]) C dX13_cut_38 rfl (Nat.le_of_ble_eq_true rfl) rfl ?_
        refine T_iconst (pc := 39) C dX13_cut_39 ?_
        refine T_istore (pc := 40) (L' := [(4, vi 0), (3, vi 1000000000), (0, .ref (ad 0)), (1, vi x1), (2, vi x2)]) C dX13_cut_40 (Nat.le_of_ble_eq_true rfl) rfl ?_
        refine T_sub (L' := [(0, .ref (ad 0)), (1, vi x1), (2, vi x2), (3, vi 1000000000), (4, vi 0)]) [2, 3, 4, 1, 0] rfl ?_
        refine T_loopE (lp_X13_cut_42 C N s4 x1 x2 h1 h2 N 1000000000 0 (rngL rfl) (rngL rfl)) (fun q27 hq27 => ?_)
        refine T_iload_n (pc := 103) C dX13_cut_103 rfl 0 rfl ?_
        exact T_iret (pc := 104) (s4, q27) (fun h9 => h9) hq27 (nar_I _) (by decide) dX13_cut_104
      · refine T_iconst (pc := 34) C dX13_cut_34 ?_
        exact T_iret (pc := 35) (s4, 0) (fun h9 => h9) (rngL rfl) (nar_I _) (by decide) dX13_cut_35
    · refine T_iconst (pc := 19) C dX13_cut_19 ?_
      refine T_goto (pc := 20) C 24 dX13_cut_20 rfl ?_
      refine Tm_put (pc := 24) C (ty := .int) 11 ⟨by decide, by decide⟩ (rngL rfl) kw_144 rfl (nar_I _) (fit_I _) dX13_cut_24 ?_
      refine T_blS (fun s28 => ?_)
      refine T_aload_n (pc := 27) C dX13_cut_27 rfl 0 rfl ?_
      refine Tm_get (pc := 28) C 11 ⟨by decide, by decide⟩ kw_144 dX13_cut_28 (fun r29 => ?_)
      refine T_if_le (pc := 31) C 36 dX13_cut_31 rfl r29 (fun c30 => ?_) (fun c30 => ?_)
      · refine T_ldc (pc := 36) C 1000000000 dX13_cut_36 kw_357 (by decide) ?_
        refine T_istore_n (pc := 38) (L' := [(3, vi 1000000000), (0, .ref (ad 0)), (1, vi x1), (2, vi x2)]) C dX13_cut_38 rfl (Nat.le_of_ble_eq_true rfl) rfl ?_
        refine T_iconst (pc := 39) C dX13_cut_39 ?_
        refine T_istore (pc := 40) (L' := [(4, vi 0), (3, vi 1000000000), (0, .ref (ad 0)), (1, vi x1), (2, vi x2)]) C dX13_cut_40 (Nat.le_of_ble_eq_true rfl) rfl ?_
        refine T_sub (L' := [(0, .ref (ad 0)), (1, vi x1), (2, vi x2), (3, vi 1000000000), (4, vi 0)]) [2, 3, 4, 1, 0] rfl ?_
        refine T_loopE (lp_X13_cut_42 C N s28 x1 x2 h1 h2 N 1000000000 0 (rngL rfl) (rngL rfl)) (fun q31 hq31 => ?_)
        refine T_iload_n (pc := 103) C dX13_cut_103 rfl 0 rfl ?_
        exact T_iret (pc := 104) (s28, q31) (fun h9 => h9) hq31 (nar_I _) (by decide) dX13_cut_104
      · refine T_iconst (pc := 34) C dX13_cut_34 ?_
        exact T_iret (pc := 35) (s28, 0) (fun h9 => h9) (rngL rfl) (nar_I _) (by decide) dX13_cut_35
  · refine T_iconst (pc := 10) C dX13_cut_10 ?_
    refine T_goto (pc := 11) C 24 dX13_cut_11 rfl ?_
    refine Tm_put (pc := 24) C (ty := .int) 11 ⟨by decide, by decide⟩ (rngL rfl) kw_144 rfl (nar_I _) (fit_I _) dX13_cut_24 ?_
    refine T_blS (fun s32 => ?_)
    refine T_aload_n (pc := 27) C dX13_cut_27 rfl 0 rfl ?_
    refine Tm_get (pc := 28) C 11 ⟨by decide, by decide⟩ kw_144 dX13_cut_28 (fun r33 => ?_)
    refine T_if_le (pc := 31) C 36 dX13_cut_31 rfl r33 (fun c34 => ?_) (fun c34 => ?_)
    · refine T_ldc (pc := 36) C 1000000000 dX13_cut_36 kw_357 (by decide) ?_
      refine T_istore_n (pc := 38) (L' := [(3, vi 1000000000), (0, .ref (ad 0)), (1, vi x1), (2, vi x2)]) C dX13_cut_38 rfl (Nat.le_of_ble_eq_true rfl) rfl ?_
      refine T_iconst (pc := 39) C dX13_cut_39 ?_
      refine T_istore (pc := 40) (L' := [(4, vi 0), (3, vi 1000000000), (0, .ref (ad 0)), (1, vi x1), (2, vi x2)]) C dX13_cut_40 (Nat.le_of_ble_eq_true rfl) rfl ?_
      refine T_sub (L' := [(0, .ref (ad 0)), (1, vi x1), (2, vi x2), (3, vi 1000000000), (4, vi 0)]) [2, 3, 4, 1, 0] rfl ?_
      refine T_loopE (lp_X13_cut_42 C N s32 x1 x2 h1 h2 N 1000000000 0 (rngL rfl) (rngL rfl)) (fun q35 hq35 => ?_)
      refine T_iload_n (pc := 103) C dX13_cut_103 rfl 0 rfl ?_
      exact T_iret (pc := 104) (s32, q35) (fun h9 => h9) hq35 (nar_I _) (by decide) dX13_cut_104
    · refine T_iconst (pc := 34) C dX13_cut_34 ?_
      exact T_iret (pc := 35) (s32, 0) (fun h9 => h9) (rngL rfl) (nar_I _) (by decide) dX13_cut_35

abbrev rm_X13_flow : Room := ⟨4, 0, 0, 93⟩
theorem cm_X13_flow : cmV yX13_flow cX13_flow 3 (some .int) 2 := ⟨kw_93, kw_145, ⟨by decide +kernel, by decide +kernel, by decide +kernel⟩, kw_396, kw_397⟩
def f_X13_flow (N : Nat) (σ : Sm) (x1 : Int) (x2 : Int) : Option (Sm × Int) :=
  (f_X13_cut N σ x1 x2).bind fun v1 => some (v1.1, v1.2)
theorem ct_X13_flow {l : Launch} {cy : ClassId} {ad : Nat → Nat} {G : va_G} (N : Nat) (σ : Sm) (x1 : Int) (x2 : Int) (h1 : rng x1) (h2 : rng x2) (hw : wfm σ) (o : Sm × Int) (h : f_X13_flow N σ x1 x2 = some o) : CtI l yX13_flow cX13_flow 3 (some .int) rm_X13_flow (wlm cy ad) wfm G (tym cy) [.ref (ad 0), vi x1, vi x2] σ o.1 o.2 := by
  refine ctI_of (by decide) (Nat.le_of_ble_eq_true rfl) hw o o h (fun X Y w => EndI X Y cX13_flow rm_X13_flow .int w) (fun _ _ h => h) (fun X A Q hX C => ?_)
  replace C : Cx X (Ym cy ad G A 3 Q) cX13_flow RX13 (some .int) rm_X13_flow (tym cy) := C
  show T X (Ym cy ad G A 3 Q) (fun w => EndI X (Ym cy ad G A 3 Q) cX13_flow rm_X13_flow .int w) 0 0 0 [(0, .ref (ad 0)), (1, vi x1), (2, vi x2)] [] σ (f_X13_flow N σ x1 x2)
  unfold f_X13_flow
  refine T_aload_n (pc := 0) C dX13_flow_0 rfl 0 rfl ?_
  refine T_iload_n (pc := 1) C dX13_flow_1 rfl 1 rfl ?_
  refine T_iload_n (pc := 2) C dX13_flow_2 rfl 2 rfl ?_
  refine T_callVi (pc := 3) C [vi x1, vi x2] [] (fun o h9 hw => ct_X13_cut N σ x1 x2 h1 h2 hw o h9) kw_395 cm_X13_cut rcm rfl rfl (Nat.le_of_ble_eq_true rfl) (by decide) (a' := 0) (b' := 0) ⟨rfl, rfl⟩ dX13_flow_3 (fun v1 hv1 => ?_)
  exact T_iret (pc := 6) (v1.1, v1.2) (fun h9 => h9) hv1.1 (nar_I _) (by decide) dX13_flow_6

abbrev rm_X13_smallestCut : Room := ⟨4, 0, 0, 93⟩
theorem cm_X13_smallestCut : cmV yX13_smallestCut cX13_smallestCut 3 (some .int) 2 := ⟨kw_94, kw_145, ⟨by decide +kernel, by decide +kernel, by decide +kernel⟩, kw_398, kw_399⟩
def f_X13_smallestCut (N : Nat) (σ : Sm) (x1 : Int) (x2 : Int) : Option (Sm × Int) :=
  (f_X13_cut N σ x1 x2).bind fun v1 => some (v1.1, v1.2)
theorem ct_X13_smallestCut {l : Launch} {cy : ClassId} {ad : Nat → Nat} {G : va_G} (N : Nat) (σ : Sm) (x1 : Int) (x2 : Int) (h1 : rng x1) (h2 : rng x2) (hw : wfm σ) (o : Sm × Int) (h : f_X13_smallestCut N σ x1 x2 = some o) : CtI l yX13_smallestCut cX13_smallestCut 3 (some .int) rm_X13_smallestCut (wlm cy ad) wfm G (tym cy) [.ref (ad 0), vi x1, vi x2] σ o.1 o.2 := by
  refine ctI_of (by decide) (Nat.le_of_ble_eq_true rfl) hw o o h (fun X Y w => EndI X Y cX13_smallestCut rm_X13_smallestCut .int w) (fun _ _ h => h) (fun X A Q hX C => ?_)
  replace C : Cx X (Ym cy ad G A 3 Q) cX13_smallestCut RX13 (some .int) rm_X13_smallestCut (tym cy) := C
  show T X (Ym cy ad G A 3 Q) (fun w => EndI X (Ym cy ad G A 3 Q) cX13_smallestCut rm_X13_smallestCut .int w) 0 0 0 [(0, .ref (ad 0)), (1, vi x1), (2, vi x2)] [] σ (f_X13_smallestCut N σ x1 x2)
  unfold f_X13_smallestCut
  refine T_aload_n (pc := 0) C dX13_smallestCut_0 rfl 0 rfl ?_
  refine T_iload_n (pc := 1) C dX13_smallestCut_1 rfl 1 rfl ?_
  refine T_iload_n (pc := 2) C dX13_smallestCut_2 rfl 2 rfl ?_
  refine T_callVi (pc := 3) C [vi x1, vi x2] [] (fun o h9 hw => ct_X13_cut N σ x1 x2 h1 h2 hw o h9) kw_395 cm_X13_cut rcm rfl rfl (Nat.le_of_ble_eq_true rfl) (by decide) (a' := 0) (b' := 0) ⟨rfl, rfl⟩ dX13_smallestCut_3 (fun v1 hv1 => ?_)
  exact T_iret (pc := 6) (v1.1, v1.2) (fun h9 => h9) hv1.1 (nar_I _) (by decide) dX13_smallestCut_6

abbrev rm_X13_seatsLeft : Room := ⟨3, 0, 0, 73⟩
theorem cm_X13_seatsLeft : cmV yX13_seatsLeft cX13_seatsLeft 5 (some .int) 4 := ⟨kw_95, kw_145, ⟨by decide +kernel, by decide +kernel, by decide +kernel⟩, kw_400, kw_401⟩
def f_X13_seatsLeft (N : Nat) (σ : Sm) (x1 : Int) (x2 : Int) (x3 : Int) (x4 : Int) : Option (Sm × Int) :=
  (f_X13_isLine σ x1).bind fun v1 => (if v1 = 0 then bl (upm σ 11 0 1) fun s13 => (if (s13 11 0) ≤ 0 then (f_X13_free N s13 x1 x2 x3 x4).bind fun v16 => some (s13, v16) else some (s13, 0)) else (f_X13_isRide σ x1 x2 x3 x4).bind fun v3 => (if v3 = 0 then bl (upm σ 11 0 2) fun s9 => (if (s9 11 0) ≤ 0 then (f_X13_free N s9 x1 x2 x3 x4).bind fun v12 => some (s9, v12) else some (s9, 0)) else bl (upm σ 11 0 0) fun s5 => (if (s5 11 0) ≤ 0 then (f_X13_free N s5 x1 x2 x3 x4).bind fun v8 => some (s5, v8) else some (s5, 0))))
theorem ct_X13_seatsLeft {l : Launch} {cy : ClassId} {ad : Nat → Nat} {G : va_G} (N : Nat) (σ : Sm) (x1 : Int) (x2 : Int) (x3 : Int) (x4 : Int) (h1 : rng x1) (h2 : rng x2) (h3 : rng x3) (h4 : rng x4) (hw : wfm σ) (o : Sm × Int) (h : f_X13_seatsLeft N σ x1 x2 x3 x4 = some o) : CtI l yX13_seatsLeft cX13_seatsLeft 5 (some .int) rm_X13_seatsLeft (wlm cy ad) wfm G (tym cy) [.ref (ad 0), vi x1, vi x2, vi x3, vi x4] σ o.1 o.2 := by
  refine ctI_of (by decide) (Nat.le_of_ble_eq_true rfl) hw o o h (fun X Y w => EndI X Y cX13_seatsLeft rm_X13_seatsLeft .int w) (fun _ _ h => h) (fun X A Q hX C => ?_)
  replace C : Cx X (Ym cy ad G A 5 Q) cX13_seatsLeft RX13 (some .int) rm_X13_seatsLeft (tym cy) := C
  show T X (Ym cy ad G A 5 Q) (fun w => EndI X (Ym cy ad G A 5 Q) cX13_seatsLeft rm_X13_seatsLeft .int w) 0 0 0 [(0, .ref (ad 0)), (1, vi x1), (2, vi x2), (3, vi x3), (4, vi x4)] [] σ (f_X13_seatsLeft N σ x1 x2 x3 x4)
  unfold f_X13_seatsLeft
  refine T_aload_n (pc := 0) C dX13_seatsLeft_0 rfl 0 rfl ?_
  refine T_aload_n (pc := 1) C dX13_seatsLeft_1 rfl 0 rfl ?_
  refine T_iload_n (pc := 2) C dX13_seatsLeft_2 rfl 1 rfl ?_
  refine T_callVip (pc := 3) C [vi x1] [.ref (ad 0)] (fun o h9 hw => ct_X13_isLine σ x1 h1 hw o h9) kw_240 cm_X13_isLine rcm rfl rfl (Nat.le_of_ble_eq_true rfl) (by decide) (a' := 0) (b' := 0) ⟨rfl, rfl⟩ dX13_seatsLeft_3 (fun v1 hv1 => ?_)
  refine T_if_ne (pc := 6) C 13 dX13_seatsLeft_6 rfl hv1.1 (fun c2 => ?_) (fun c2 => ?_)
  · refine T_aload_n (pc := 13) C dX13_seatsLeft_13 rfl 0 rfl ?_
    refine T_iload_n (pc := 14) C dX13_seatsLeft_14 rfl 1 rfl ?_
    refine T_iload_n (pc := 15) C dX13_seatsLeft_15 rfl 2 rfl ?_
    refine T_iload_n (pc := 16) C dX13_seatsLeft_16 rfl 3 rfl ?_
    refine T_iload (pc := 17) C dX13_seatsLeft_17 4 rfl ?_
    refine T_callVip (pc := 19) C [vi x1, vi x2, vi x3, vi x4] [.ref (ad 0)] (fun o h9 hw => ct_X13_isRide σ x1 x2 x3 x4 h1 h2 h3 h4 hw o h9) kw_282 cm_X13_isRide rcm rfl rfl (Nat.le_of_ble_eq_true rfl) (by decide) (a' := 0) (b' := 0) ⟨rfl, rfl⟩ dX13_seatsLeft_19 (fun v3 hv3 => ?_)
    refine T_if_ne (pc := 22) C 29 dX13_seatsLeft_22 rfl hv3.1 (fun c4 => ?_) (fun c4 => ?_)
    · refine T_iconst (pc := 29) C dX13_seatsLeft_29 ?_
      refine Tm_put (pc := 30) C (ty := .int) 11 ⟨by decide, by decide⟩ (rngL rfl) kw_144 rfl (nar_I _) (fit_I _) dX13_seatsLeft_30 ?_
      refine T_blS (fun s5 => ?_)
      refine T_aload_n (pc := 33) C dX13_seatsLeft_33 rfl 0 rfl ?_
      refine Tm_get (pc := 34) C 11 ⟨by decide, by decide⟩ kw_144 dX13_seatsLeft_34 (fun r6 => ?_)
      refine T_if_le (pc := 37) C 44 dX13_seatsLeft_37 rfl r6 (fun c7 => ?_) (fun c7 => ?_)
      · refine T_aload_n (pc := 44) C dX13_seatsLeft_44 rfl 0 rfl ?_
        refine T_iload_n (pc := 45) C dX13_seatsLeft_45 rfl 1 rfl ?_
        refine T_iload_n (pc := 46) C dX13_seatsLeft_46 rfl 2 rfl ?_
        refine T_iload_n (pc := 47) C dX13_seatsLeft_47 rfl 3 rfl ?_
        refine T_iload (pc := 48) C dX13_seatsLeft_48 4 rfl ?_
        refine T_callVip (pc := 50) C [vi x1, vi x2, vi x3, vi x4] [] (fun o h9 hw => ct_X13_free N s5 x1 x2 x3 x4 h1 h2 h3 h4 hw o h9) kw_284 cm_X13_free rcm rfl rfl (Nat.le_of_ble_eq_true rfl) (by decide) (a' := 0) (b' := 0) ⟨rfl, rfl⟩ dX13_seatsLeft_50 (fun v8 hv8 => ?_)
        exact T_iret (pc := 53) (s5, v8) (fun h9 => h9) hv8.1 (nar_I _) (by decide) dX13_seatsLeft_53
      · refine T_iconst (pc := 40) C dX13_seatsLeft_40 ?_
        refine T_goto (pc := 41) C 53 dX13_seatsLeft_41 rfl ?_
        exact T_iret (pc := 53) (s5, 0) (fun h9 => h9) (rngL rfl) (nar_I _) (by decide) dX13_seatsLeft_53
    · refine T_iconst (pc := 25) C dX13_seatsLeft_25 ?_
      refine T_goto (pc := 26) C 30 dX13_seatsLeft_26 rfl ?_
      refine Tm_put (pc := 30) C (ty := .int) 11 ⟨by decide, by decide⟩ (rngL rfl) kw_144 rfl (nar_I _) (fit_I _) dX13_seatsLeft_30 ?_
      refine T_blS (fun s9 => ?_)
      refine T_aload_n (pc := 33) C dX13_seatsLeft_33 rfl 0 rfl ?_
      refine Tm_get (pc := 34) C 11 ⟨by decide, by decide⟩ kw_144 dX13_seatsLeft_34 (fun r10 => ?_)
      refine T_if_le (pc := 37) C 44 dX13_seatsLeft_37 rfl r10 (fun c11 => ?_) (fun c11 => ?_)
      · refine T_aload_n (pc := 44) C dX13_seatsLeft_44 rfl 0 rfl ?_
        refine T_iload_n (pc := 45) C dX13_seatsLeft_45 rfl 1 rfl ?_
        refine T_iload_n (pc := 46) C dX13_seatsLeft_46 rfl 2 rfl ?_
        refine T_iload_n (pc := 47) C dX13_seatsLeft_47 rfl 3 rfl ?_
        refine T_iload (pc := 48) C dX13_seatsLeft_48 4 rfl ?_
        refine T_callVip (pc := 50) C [vi x1, vi x2, vi x3, vi x4] [] (fun o h9 hw => ct_X13_free N s9 x1 x2 x3 x4 h1 h2 h3 h4 hw o h9) kw_284 cm_X13_free rcm rfl rfl (Nat.le_of_ble_eq_true rfl) (by decide) (a' := 0) (b' := 0) ⟨rfl, rfl⟩ dX13_seatsLeft_50 (fun v12 hv12 => ?_)
        exact T_iret (pc := 53) (s9, v12) (fun h9 => h9) hv12.1 (nar_I _) (by decide) dX13_seatsLeft_53
      · refine T_iconst (pc := 40) C dX13_seatsLeft_40 ?_
        refine T_goto (pc := 41) C 53 dX13_seatsLeft_41 rfl ?_
        exact T_iret (pc := 53) (s9, 0) (fun h9 => h9) (rngL rfl) (nar_I _) (by decide) dX13_seatsLeft_53
  · refine T_iconst (pc := 9) C dX13_seatsLeft_9 ?_
    refine T_goto (pc := 10) C 30 dX13_seatsLeft_10 rfl ?_
    refine Tm_put (pc := 30) C (ty := .int) 11 ⟨by decide, by decide⟩ (rngL rfl) kw_144 rfl (nar_I _) (fit_I _) dX13_seatsLeft_30 ?_
    refine T_blS (fun s13 => ?_)
    refine T_aload_n (pc := 33) C dX13_seatsLeft_33 rfl 0 rfl ?_
    refine Tm_get (pc := 34) C 11 ⟨by decide, by decide⟩ kw_144 dX13_seatsLeft_34 (fun r14 => ?_)
    refine T_if_le (pc := 37) C 44 dX13_seatsLeft_37 rfl r14 (fun c15 => ?_) (fun c15 => ?_)
    · refine T_aload_n (pc := 44) C dX13_seatsLeft_44 rfl 0 rfl ?_
      refine T_iload_n (pc := 45) C dX13_seatsLeft_45 rfl 1 rfl ?_
      refine T_iload_n (pc := 46) C dX13_seatsLeft_46 rfl 2 rfl ?_
      refine T_iload_n (pc := 47) C dX13_seatsLeft_47 rfl 3 rfl ?_
      refine T_iload (pc := 48) C dX13_seatsLeft_48 4 rfl ?_
      refine T_callVip (pc := 50) C [vi x1, vi x2, vi x3, vi x4] [] (fun o h9 hw => ct_X13_free N s13 x1 x2 x3 x4 h1 h2 h3 h4 hw o h9) kw_284 cm_X13_free rcm rfl rfl (Nat.le_of_ble_eq_true rfl) (by decide) (a' := 0) (b' := 0) ⟨rfl, rfl⟩ dX13_seatsLeft_50 (fun v16 hv16 => ?_)
      exact T_iret (pc := 53) (s13, v16) (fun h9 => h9) hv16.1 (nar_I _) (by decide) dX13_seatsLeft_53
    · refine T_iconst (pc := 40) C dX13_seatsLeft_40 ?_
      refine T_goto (pc := 41) C 53 dX13_seatsLeft_41 rfl ?_
      exact T_iret (pc := 53) (s13, 0) (fun h9 => h9) (rngL rfl) (nar_I _) (by decide) dX13_seatsLeft_53

abbrev rm_X13_freeSeats : Room := ⟨4, 0, 0, 97⟩
theorem cm_X13_freeSeats : cmV yX13_freeSeats cX13_freeSeats 5 (some .int) 4 := ⟨kw_96, kw_145, ⟨by decide +kernel, by decide +kernel, by decide +kernel⟩, kw_403, kw_404⟩
def f_X13_freeSeats (N : Nat) (σ : Sm) (x1 : Int) (x2 : Int) (x3 : Int) (x4 : Int) : Option (Sm × Int) :=
  (f_X13_seatsLeft N σ x1 x2 x3 x4).bind fun v1 => some (v1.1, v1.2)
theorem ct_X13_freeSeats {l : Launch} {cy : ClassId} {ad : Nat → Nat} {G : va_G} (N : Nat) (σ : Sm) (x1 : Int) (x2 : Int) (x3 : Int) (x4 : Int) (h1 : rng x1) (h2 : rng x2) (h3 : rng x3) (h4 : rng x4) (hw : wfm σ) (o : Sm × Int) (h : f_X13_freeSeats N σ x1 x2 x3 x4 = some o) : CtI l yX13_freeSeats cX13_freeSeats 5 (some .int) rm_X13_freeSeats (wlm cy ad) wfm G (tym cy) [.ref (ad 0), vi x1, vi x2, vi x3, vi x4] σ o.1 o.2 := by
  refine ctI_of (by decide) (Nat.le_of_ble_eq_true rfl) hw o o h (fun X Y w => EndI X Y cX13_freeSeats rm_X13_freeSeats .int w) (fun _ _ h => h) (fun X A Q hX C => ?_)
  replace C : Cx X (Ym cy ad G A 5 Q) cX13_freeSeats RX13 (some .int) rm_X13_freeSeats (tym cy) := C
  show T X (Ym cy ad G A 5 Q) (fun w => EndI X (Ym cy ad G A 5 Q) cX13_freeSeats rm_X13_freeSeats .int w) 0 0 0 [(0, .ref (ad 0)), (1, vi x1), (2, vi x2), (3, vi x3), (4, vi x4)] [] σ (f_X13_freeSeats N σ x1 x2 x3 x4)
  unfold f_X13_freeSeats
  refine T_aload_n (pc := 0) C dX13_freeSeats_0 rfl 0 rfl ?_
  refine T_iload_n (pc := 1) C dX13_freeSeats_1 rfl 1 rfl ?_
  refine T_iload_n (pc := 2) C dX13_freeSeats_2 rfl 2 rfl ?_
  refine T_iload_n (pc := 3) C dX13_freeSeats_3 rfl 3 rfl ?_
  refine T_iload (pc := 4) C dX13_freeSeats_4 4 rfl ?_
  refine T_callVi (pc := 6) C [vi x1, vi x2, vi x3, vi x4] [] (fun o h9 hw => ct_X13_seatsLeft N σ x1 x2 x3 x4 h1 h2 h3 h4 hw o h9) kw_402 cm_X13_seatsLeft rcm rfl rfl (Nat.le_of_ble_eq_true rfl) (by decide) (a' := 0) (b' := 0) ⟨rfl, rfl⟩ dX13_freeSeats_6 (fun v1 hv1 => ?_)
  exact T_iret (pc := 9) (v1.1, v1.2) (fun h9 => h9) hv1.1 (nar_I _) (by decide) dX13_freeSeats_9

abbrev rm_X13_freeSeatsBySweep : Room := ⟨4, 0, 0, 97⟩
theorem cm_X13_freeSeatsBySweep : cmV yX13_freeSeatsBySweep cX13_freeSeatsBySweep 5 (some .int) 4 := ⟨kw_97, kw_145, ⟨by decide +kernel, by decide +kernel, by decide +kernel⟩, kw_405, kw_406⟩
def f_X13_freeSeatsBySweep (N : Nat) (σ : Sm) (x1 : Int) (x2 : Int) (x3 : Int) (x4 : Int) : Option (Sm × Int) :=
  (f_X13_seatsLeft N σ x1 x2 x3 x4).bind fun v1 => some (v1.1, v1.2)
theorem ct_X13_freeSeatsBySweep {l : Launch} {cy : ClassId} {ad : Nat → Nat} {G : va_G} (N : Nat) (σ : Sm) (x1 : Int) (x2 : Int) (x3 : Int) (x4 : Int) (h1 : rng x1) (h2 : rng x2) (h3 : rng x3) (h4 : rng x4) (hw : wfm σ) (o : Sm × Int) (h : f_X13_freeSeatsBySweep N σ x1 x2 x3 x4 = some o) : CtI l yX13_freeSeatsBySweep cX13_freeSeatsBySweep 5 (some .int) rm_X13_freeSeatsBySweep (wlm cy ad) wfm G (tym cy) [.ref (ad 0), vi x1, vi x2, vi x3, vi x4] σ o.1 o.2 := by
  refine ctI_of (by decide) (Nat.le_of_ble_eq_true rfl) hw o o h (fun X Y w => EndI X Y cX13_freeSeatsBySweep rm_X13_freeSeatsBySweep .int w) (fun _ _ h => h) (fun X A Q hX C => ?_)
  replace C : Cx X (Ym cy ad G A 5 Q) cX13_freeSeatsBySweep RX13 (some .int) rm_X13_freeSeatsBySweep (tym cy) := C
  show T X (Ym cy ad G A 5 Q) (fun w => EndI X (Ym cy ad G A 5 Q) cX13_freeSeatsBySweep rm_X13_freeSeatsBySweep .int w) 0 0 0 [(0, .ref (ad 0)), (1, vi x1), (2, vi x2), (3, vi x3), (4, vi x4)] [] σ (f_X13_freeSeatsBySweep N σ x1 x2 x3 x4)
  unfold f_X13_freeSeatsBySweep
  refine T_aload_n (pc := 0) C dX13_freeSeatsBySweep_0 rfl 0 rfl ?_
  refine T_iload_n (pc := 1) C dX13_freeSeatsBySweep_1 rfl 1 rfl ?_
  refine T_iload_n (pc := 2) C dX13_freeSeatsBySweep_2 rfl 2 rfl ?_
  refine T_iload_n (pc := 3) C dX13_freeSeatsBySweep_3 rfl 3 rfl ?_
  refine T_iload (pc := 4) C dX13_freeSeatsBySweep_4 4 rfl ?_
  refine T_callVi (pc := 6) C [vi x1, vi x2, vi x3, vi x4] [] (fun o h9 hw => ct_X13_seatsLeft N σ x1 x2 x3 x4 h1 h2 h3 h4 hw o h9) kw_402 cm_X13_seatsLeft rcm rfl rfl (Nat.le_of_ble_eq_true rfl) (by decide) (a' := 0) (b' := 0) ⟨rfl, rfl⟩ dX13_freeSeatsBySweep_6 (fun v1 hv1 => ?_)
  exact T_iret (pc := 9) (v1.1, v1.2) (fun h9 => h9) hv1.1 (nar_I _) (by decide) dX13_freeSeatsBySweep_9

abbrev rm_X13_ticketCount : Room := ⟨1, 0, 0, 21⟩
theorem cm_X13_ticketCount : cmV yX13_ticketCount cX13_ticketCount 1 (some .int) 0 := ⟨kw_98, kw_145, ⟨by decide +kernel, by decide +kernel, by decide +kernel⟩, kw_407, kw_408⟩
def f_X13_ticketCount (σ : Sm) : Option (Sm × Int) :=
  (f_X13_plain σ (σ 1 3)).bind fun v2 => some (v2.1, v2.2)
theorem ct_X13_ticketCount {l : Launch} {cy : ClassId} {ad : Nat → Nat} {G : va_G} (σ : Sm) (hw : wfm σ) (o : Sm × Int) (h : f_X13_ticketCount σ = some o) : CtI l yX13_ticketCount cX13_ticketCount 1 (some .int) rm_X13_ticketCount (wlm cy ad) wfm G (tym cy) [.ref (ad 0)] σ o.1 o.2 := by
  refine ctI_of (by decide) (Nat.le_of_ble_eq_true rfl) hw o o h (fun X Y w => EndI X Y cX13_ticketCount rm_X13_ticketCount .int w) (fun _ _ h => h) (fun X A Q hX C => ?_)
  replace C : Cx X (Ym cy ad G A 1 Q) cX13_ticketCount RX13 (some .int) rm_X13_ticketCount (tym cy) := C
  show T X (Ym cy ad G A 1 Q) (fun w => EndI X (Ym cy ad G A 1 Q) cX13_ticketCount rm_X13_ticketCount .int w) 0 0 0 [(0, .ref (ad 0))] [] σ (f_X13_ticketCount σ)
  unfold f_X13_ticketCount
  refine T_aload_n (pc := 0) C dX13_ticketCount_0 rfl 0 rfl ?_
  refine T_aload_n (pc := 1) C dX13_ticketCount_1 rfl 0 rfl ?_
  refine Tm_getA (pc := 2) C 0 1 (by decide) (fun _ => rfl) kw_152 rfl dX13_ticketCount_2 ?_
  refine T_iconst (pc := 5) C dX13_ticketCount_5 ?_
  refine Tm_iald (pc := 6) C 1 3 ⟨by decide, by decide⟩ ⟨by decide, by decide⟩ rfl dX13_ticketCount_6 (fun r1 => ?_)
  refine T_callVi (pc := 7) C [vi (σ 1 3)] [] (fun o h9 hw => ct_X13_plain σ (σ 1 3) r1 hw o h9) kw_314 cm_X13_plain rcm rfl rfl (Nat.le_of_ble_eq_true rfl) (by decide) (a' := 0) (b' := 0) ⟨rfl, rfl⟩ dX13_ticketCount_7 (fun v2 hv2 => ?_)
  exact T_iret (pc := 10) (v2.1, v2.2) (fun h9 => h9) hv2.1 (nar_I _) (by decide) dX13_ticketCount_10

abbrev rm_X13_ticketAt : Room := ⟨1, 0, 0, 22⟩
theorem cm_X13_ticketAt : cmV yX13_ticketAt cX13_ticketAt 2 (some .int) 1 := ⟨kw_99, kw_145, ⟨by decide +kernel, by decide +kernel, by decide +kernel⟩, kw_409, kw_410⟩
def f_X13_ticketAt (σ : Sm) (x1 : Int) : Option (Sm × Int) :=
  if rng ((σ 1 3) - 1) then (f_X13_in x1 0 ((σ 1 3) - 1)).bind fun v3 => (f_X13_checked σ v3).bind fun v4 => (if v4.2 ≤ 0 then (f_X13_t v4.1 x1 0).bind fun v6 => some (v4.1, v6) else some (v4.1, 0)) else none
theorem ct_X13_ticketAt {l : Launch} {cy : ClassId} {ad : Nat → Nat} {G : va_G} (σ : Sm) (x1 : Int) (h1 : rng x1) (hw : wfm σ) (o : Sm × Int) (h : f_X13_ticketAt σ x1 = some o) : CtI l yX13_ticketAt cX13_ticketAt 2 (some .int) rm_X13_ticketAt (wlm cy ad) wfm G (tym cy) [.ref (ad 0), vi x1] σ o.1 o.2 := by
  refine ctI_of (by decide) (Nat.le_of_ble_eq_true rfl) hw o o h (fun X Y w => EndI X Y cX13_ticketAt rm_X13_ticketAt .int w) (fun _ _ h => h) (fun X A Q hX C => ?_)
  replace C : Cx X (Ym cy ad G A 2 Q) cX13_ticketAt RX13 (some .int) rm_X13_ticketAt (tym cy) := C
  show T X (Ym cy ad G A 2 Q) (fun w => EndI X (Ym cy ad G A 2 Q) cX13_ticketAt rm_X13_ticketAt .int w) 0 0 0 [(0, .ref (ad 0)), (1, vi x1)] [] σ (f_X13_ticketAt σ x1)
  unfold f_X13_ticketAt
  refine T_aload_n (pc := 0) C dX13_ticketAt_0 rfl 0 rfl ?_
  refine T_iload_n (pc := 1) C dX13_ticketAt_1 rfl 1 rfl ?_
  refine T_iconst (pc := 2) C dX13_ticketAt_2 ?_
  refine T_aload_n (pc := 3) C dX13_ticketAt_3 rfl 0 rfl ?_
  refine Tm_getA (pc := 4) C 0 1 (by decide) (fun _ => rfl) kw_152 rfl dX13_ticketAt_4 ?_
  refine T_iconst (pc := 7) C dX13_ticketAt_7 ?_
  refine Tm_iald (pc := 8) C 1 3 ⟨by decide, by decide⟩ ⟨by decide, by decide⟩ rfl dX13_ticketAt_8 (fun r1 => ?_)
  refine T_iconst (pc := 9) C dX13_ticketAt_9 ?_
  refine T_isub (pc := 10) C dX13_ticketAt_10 ?_
  refine T_guard (fun g2 => ?_)
  refine T_callSip (pc := 11) C [vi x1, vi 0, vi ((σ 1 3) - 1)] [.ref (ad 0)] (fun o h9 hw => ct_X13_in σ x1 0 ((σ 1 3) - 1) h1 (rngL rfl) g2 hw o h9) kw_161 cm_X13_in rfl rfl (Nat.le_of_ble_eq_true rfl) (by decide) (a' := 0) (b' := 0) ⟨rfl, rfl⟩ dX13_ticketAt_11 (fun v3 hv3 => ?_)
  refine T_callVi (pc := 14) C [vi v3] [] (fun o h9 hw => ct_X13_checked σ v3 (bit_of_nar hv3) hw o h9) kw_321 cm_X13_checked rcm rfl rfl (Nat.le_of_ble_eq_true rfl) (by decide) (a' := 0) (b' := 0) ⟨rfl, rfl⟩ dX13_ticketAt_14 (fun v4 hv4 => ?_)
  refine T_if_le (pc := 17) C 24 dX13_ticketAt_17 rfl hv4.1 (fun c5 => ?_) (fun c5 => ?_)
  · refine T_aload_n (pc := 24) C dX13_ticketAt_24 rfl 0 rfl ?_
    refine T_iload_n (pc := 25) C dX13_ticketAt_25 rfl 1 rfl ?_
    refine T_iconst (pc := 26) C dX13_ticketAt_26 ?_
    refine T_callVip (pc := 27) C [vi x1, vi 0] [] (fun o h9 hw => ct_X13_t v4.1 x1 0 h1 (rngL rfl) hw o h9) kw_237 cm_X13_t rcm rfl rfl (Nat.le_of_ble_eq_true rfl) (by decide) (a' := 0) (b' := 0) ⟨rfl, rfl⟩ dX13_ticketAt_27 (fun v6 hv6 => ?_)
    exact T_iret (pc := 30) (v4.1, v6) (fun h9 => h9) hv6.1 (nar_I _) (by decide) dX13_ticketAt_30
  · refine T_iconst (pc := 20) C dX13_ticketAt_20 ?_
    refine T_goto (pc := 21) C 30 dX13_ticketAt_21 rfl ?_
    exact T_iret (pc := 30) (v4.1, 0) (fun h9 => h9) (rngL rfl) (nar_I _) (by decide) dX13_ticketAt_30

abbrev rm_X13_ofTicket : Room := ⟨2, 0, 0, 44⟩
theorem cm_X13_ofTicket : cmV yX13_ofTicket cX13_ofTicket 3 (some .int) 2 := ⟨kw_100, kw_145, ⟨by decide +kernel, by decide +kernel, by decide +kernel⟩, kw_411, kw_412⟩
def f_X13_ofTicket (N : Nat) (σ : Sm) (x1 : Int) (x2 : Int) : Option (Sm × Int) :=
  (f_X13_ticket N σ x1).bind fun v1 => (if v1 < 0 then (f_X13_checked σ 0).bind fun v3 => (if v3.2 ≤ 0 then (f_X13_ticket N v3.1 x1).bind fun v5 => (f_X13_t v3.1 v5 x2).bind fun v6 => some (v3.1, v6) else some (v3.1, 0)) else (f_X13_checked σ 1).bind fun v7 => (if v7.2 ≤ 0 then (f_X13_ticket N v7.1 x1).bind fun v9 => (f_X13_t v7.1 v9 x2).bind fun v10 => some (v7.1, v10) else some (v7.1, 0)))
theorem ct_X13_ofTicket {l : Launch} {cy : ClassId} {ad : Nat → Nat} {G : va_G} (N : Nat) (σ : Sm) (x1 : Int) (x2 : Int) (h1 : rng x1) (h2 : rng x2) (hw : wfm σ) (o : Sm × Int) (h : f_X13_ofTicket N σ x1 x2 = some o) : CtI l yX13_ofTicket cX13_ofTicket 3 (some .int) rm_X13_ofTicket (wlm cy ad) wfm G (tym cy) [.ref (ad 0), vi x1, vi x2] σ o.1 o.2 := by
  refine ctI_of (by decide) (Nat.le_of_ble_eq_true rfl) hw o o h (fun X Y w => EndI X Y cX13_ofTicket rm_X13_ofTicket .int w) (fun _ _ h => h) (fun X A Q hX C => ?_)
  replace C : Cx X (Ym cy ad G A 3 Q) cX13_ofTicket RX13 (some .int) rm_X13_ofTicket (tym cy) := C
  show T X (Ym cy ad G A 3 Q) (fun w => EndI X (Ym cy ad G A 3 Q) cX13_ofTicket rm_X13_ofTicket .int w) 0 0 0 [(0, .ref (ad 0)), (1, vi x1), (2, vi x2)] [] σ (f_X13_ofTicket N σ x1 x2)
  unfold f_X13_ofTicket
  refine T_aload_n (pc := 0) C dX13_ofTicket_0 rfl 0 rfl ?_
  refine T_aload_n (pc := 1) C dX13_ofTicket_1 rfl 0 rfl ?_
  refine T_iload_n (pc := 2) C dX13_ofTicket_2 rfl 1 rfl ?_
  refine T_callVip (pc := 3) C [vi x1] [.ref (ad 0)] (fun o h9 hw => ct_X13_ticket N σ x1 h1 hw o h9) kw_295 cm_X13_ticket rcm rfl rfl (Nat.le_of_ble_eq_true rfl) (by decide) (a' := 0) (b' := 0) ⟨rfl, rfl⟩ dX13_ofTicket_3 (fun v1 hv1 => ?_)
  refine T_if_lt (pc := 6) C 13 dX13_ofTicket_6 rfl hv1.1 (fun c2 => ?_) (fun c2 => ?_)
  · refine T_iconst (pc := 13) C dX13_ofTicket_13 ?_
    refine T_callVi (pc := 14) C [vi 0] [] (fun o h9 hw => ct_X13_checked σ 0 (Or.inl rfl) hw o h9) kw_321 cm_X13_checked rcm rfl rfl (Nat.le_of_ble_eq_true rfl) (by decide) (a' := 0) (b' := 0) ⟨rfl, rfl⟩ dX13_ofTicket_14 (fun v3 hv3 => ?_)
    refine T_if_le (pc := 17) C 24 dX13_ofTicket_17 rfl hv3.1 (fun c4 => ?_) (fun c4 => ?_)
    · refine T_aload_n (pc := 24) C dX13_ofTicket_24 rfl 0 rfl ?_
      refine T_aload_n (pc := 25) C dX13_ofTicket_25 rfl 0 rfl ?_
      refine T_iload_n (pc := 26) C dX13_ofTicket_26 rfl 1 rfl ?_
      refine T_callVip (pc := 27) C [vi x1] [.ref (ad 0)] (fun o h9 hw => ct_X13_ticket N v3.1 x1 h1 hw o h9) kw_295 cm_X13_ticket rcm rfl rfl (Nat.le_of_ble_eq_true rfl) (by decide) (a' := 0) (b' := 0) ⟨rfl, rfl⟩ dX13_ofTicket_27 (fun v5 hv5 => ?_)
      refine T_iload_n (pc := 30) C dX13_ofTicket_30 rfl 2 rfl ?_
      refine T_callVip (pc := 31) C [vi v5, vi x2] [] (fun o h9 hw => ct_X13_t v3.1 v5 x2 hv5.1 h2 hw o h9) kw_237 cm_X13_t rcm rfl rfl (Nat.le_of_ble_eq_true rfl) (by decide) (a' := 0) (b' := 0) ⟨rfl, rfl⟩ dX13_ofTicket_31 (fun v6 hv6 => ?_)
      exact T_iret (pc := 34) (v3.1, v6) (fun h9 => h9) hv6.1 (nar_I _) (by decide) dX13_ofTicket_34
    · refine T_iconst (pc := 20) C dX13_ofTicket_20 ?_
      refine T_goto (pc := 21) C 34 dX13_ofTicket_21 rfl ?_
      exact T_iret (pc := 34) (v3.1, 0) (fun h9 => h9) (rngL rfl) (nar_I _) (by decide) dX13_ofTicket_34
  · refine T_iconst (pc := 9) C dX13_ofTicket_9 ?_
    refine T_goto (pc := 10) C 14 dX13_ofTicket_10 rfl ?_
    refine T_callVi (pc := 14) C [vi 1] [] (fun o h9 hw => ct_X13_checked σ 1 (Or.inr rfl) hw o h9) kw_321 cm_X13_checked rcm rfl rfl (Nat.le_of_ble_eq_true rfl) (by decide) (a' := 0) (b' := 0) ⟨rfl, rfl⟩ dX13_ofTicket_14 (fun v7 hv7 => ?_)
    refine T_if_le (pc := 17) C 24 dX13_ofTicket_17 rfl hv7.1 (fun c8 => ?_) (fun c8 => ?_)
    · refine T_aload_n (pc := 24) C dX13_ofTicket_24 rfl 0 rfl ?_
      refine T_aload_n (pc := 25) C dX13_ofTicket_25 rfl 0 rfl ?_
      refine T_iload_n (pc := 26) C dX13_ofTicket_26 rfl 1 rfl ?_
      refine T_callVip (pc := 27) C [vi x1] [.ref (ad 0)] (fun o h9 hw => ct_X13_ticket N v7.1 x1 h1 hw o h9) kw_295 cm_X13_ticket rcm rfl rfl (Nat.le_of_ble_eq_true rfl) (by decide) (a' := 0) (b' := 0) ⟨rfl, rfl⟩ dX13_ofTicket_27 (fun v9 hv9 => ?_)
      refine T_iload_n (pc := 30) C dX13_ofTicket_30 rfl 2 rfl ?_
      refine T_callVip (pc := 31) C [vi v9, vi x2] [] (fun o h9 hw => ct_X13_t v7.1 v9 x2 hv9.1 h2 hw o h9) kw_237 cm_X13_t rcm rfl rfl (Nat.le_of_ble_eq_true rfl) (by decide) (a' := 0) (b' := 0) ⟨rfl, rfl⟩ dX13_ofTicket_31 (fun v10 hv10 => ?_)
      exact T_iret (pc := 34) (v7.1, v10) (fun h9 => h9) hv10.1 (nar_I _) (by decide) dX13_ofTicket_34
    · refine T_iconst (pc := 20) C dX13_ofTicket_20 ?_
      refine T_goto (pc := 21) C 34 dX13_ofTicket_21 rfl ?_
      exact T_iret (pc := 34) (v7.1, 0) (fun h9 => h9) (rngL rfl) (nar_I _) (by decide) dX13_ofTicket_34

abbrev rm_X13_ticketLine : Room := ⟨3, 0, 0, 66⟩
theorem cm_X13_ticketLine : cmV yX13_ticketLine cX13_ticketLine 2 (some .int) 1 := ⟨kw_101, kw_145, ⟨by decide +kernel, by decide +kernel, by decide +kernel⟩, kw_414, kw_415⟩
def f_X13_ticketLine (N : Nat) (σ : Sm) (x1 : Int) : Option (Sm × Int) :=
  (f_X13_ofTicket N σ x1 1).bind fun v1 => some (v1.1, v1.2)
theorem ct_X13_ticketLine {l : Launch} {cy : ClassId} {ad : Nat → Nat} {G : va_G} (N : Nat) (σ : Sm) (x1 : Int) (h1 : rng x1) (hw : wfm σ) (o : Sm × Int) (h : f_X13_ticketLine N σ x1 = some o) : CtI l yX13_ticketLine cX13_ticketLine 2 (some .int) rm_X13_ticketLine (wlm cy ad) wfm G (tym cy) [.ref (ad 0), vi x1] σ o.1 o.2 := by
  refine ctI_of (by decide) (Nat.le_of_ble_eq_true rfl) hw o o h (fun X Y w => EndI X Y cX13_ticketLine rm_X13_ticketLine .int w) (fun _ _ h => h) (fun X A Q hX C => ?_)
  replace C : Cx X (Ym cy ad G A 2 Q) cX13_ticketLine RX13 (some .int) rm_X13_ticketLine (tym cy) := C
  show T X (Ym cy ad G A 2 Q) (fun w => EndI X (Ym cy ad G A 2 Q) cX13_ticketLine rm_X13_ticketLine .int w) 0 0 0 [(0, .ref (ad 0)), (1, vi x1)] [] σ (f_X13_ticketLine N σ x1)
  unfold f_X13_ticketLine
  refine T_aload_n (pc := 0) C dX13_ticketLine_0 rfl 0 rfl ?_
  refine T_iload_n (pc := 1) C dX13_ticketLine_1 rfl 1 rfl ?_
  refine T_iconst (pc := 2) C dX13_ticketLine_2 ?_
  refine T_callVi (pc := 3) C [vi x1, vi 1] [] (fun o h9 hw => ct_X13_ofTicket N σ x1 1 h1 (rngL rfl) hw o h9) kw_413 cm_X13_ofTicket rcm rfl rfl (Nat.le_of_ble_eq_true rfl) (by decide) (a' := 0) (b' := 0) ⟨rfl, rfl⟩ dX13_ticketLine_3 (fun v1 hv1 => ?_)
  exact T_iret (pc := 6) (v1.1, v1.2) (fun h9 => h9) hv1.1 (nar_I _) (by decide) dX13_ticketLine_6

abbrev rm_X13_ticketTrip : Room := ⟨3, 0, 0, 66⟩
theorem cm_X13_ticketTrip : cmV yX13_ticketTrip cX13_ticketTrip 2 (some .int) 1 := ⟨kw_102, kw_145, ⟨by decide +kernel, by decide +kernel, by decide +kernel⟩, kw_416, kw_417⟩
def f_X13_ticketTrip (N : Nat) (σ : Sm) (x1 : Int) : Option (Sm × Int) :=
  (f_X13_ofTicket N σ x1 2).bind fun v1 => some (v1.1, v1.2)
theorem ct_X13_ticketTrip {l : Launch} {cy : ClassId} {ad : Nat → Nat} {G : va_G} (N : Nat) (σ : Sm) (x1 : Int) (h1 : rng x1) (hw : wfm σ) (o : Sm × Int) (h : f_X13_ticketTrip N σ x1 = some o) : CtI l yX13_ticketTrip cX13_ticketTrip 2 (some .int) rm_X13_ticketTrip (wlm cy ad) wfm G (tym cy) [.ref (ad 0), vi x1] σ o.1 o.2 := by
  refine ctI_of (by decide) (Nat.le_of_ble_eq_true rfl) hw o o h (fun X Y w => EndI X Y cX13_ticketTrip rm_X13_ticketTrip .int w) (fun _ _ h => h) (fun X A Q hX C => ?_)
  replace C : Cx X (Ym cy ad G A 2 Q) cX13_ticketTrip RX13 (some .int) rm_X13_ticketTrip (tym cy) := C
  show T X (Ym cy ad G A 2 Q) (fun w => EndI X (Ym cy ad G A 2 Q) cX13_ticketTrip rm_X13_ticketTrip .int w) 0 0 0 [(0, .ref (ad 0)), (1, vi x1)] [] σ (f_X13_ticketTrip N σ x1)
  unfold f_X13_ticketTrip
  refine T_aload_n (pc := 0) C dX13_ticketTrip_0 rfl 0 rfl ?_
  refine T_iload_n (pc := 1) C dX13_ticketTrip_1 rfl 1 rfl ?_
  refine T_iconst (pc := 2) C dX13_ticketTrip_2 ?_
  refine T_callVi (pc := 3) C [vi x1, vi 2] [] (fun o h9 hw => ct_X13_ofTicket N σ x1 2 h1 (rngL rfl) hw o h9) kw_413 cm_X13_ofTicket rcm rfl rfl (Nat.le_of_ble_eq_true rfl) (by decide) (a' := 0) (b' := 0) ⟨rfl, rfl⟩ dX13_ticketTrip_3 (fun v1 hv1 => ?_)
  exact T_iret (pc := 6) (v1.1, v1.2) (fun h9 => h9) hv1.1 (nar_I _) (by decide) dX13_ticketTrip_6

abbrev rm_X13_ticketFrom : Room := ⟨3, 0, 0, 66⟩
theorem cm_X13_ticketFrom : cmV yX13_ticketFrom cX13_ticketFrom 2 (some .int) 1 := ⟨kw_103, kw_145, ⟨by decide +kernel, by decide +kernel, by decide +kernel⟩, kw_418, kw_419⟩
def f_X13_ticketFrom (N : Nat) (σ : Sm) (x1 : Int) : Option (Sm × Int) :=
  (f_X13_ofTicket N σ x1 3).bind fun v1 => some (v1.1, v1.2)
theorem ct_X13_ticketFrom {l : Launch} {cy : ClassId} {ad : Nat → Nat} {G : va_G} (N : Nat) (σ : Sm) (x1 : Int) (h1 : rng x1) (hw : wfm σ) (o : Sm × Int) (h : f_X13_ticketFrom N σ x1 = some o) : CtI l yX13_ticketFrom cX13_ticketFrom 2 (some .int) rm_X13_ticketFrom (wlm cy ad) wfm G (tym cy) [.ref (ad 0), vi x1] σ o.1 o.2 := by
  refine ctI_of (by decide) (Nat.le_of_ble_eq_true rfl) hw o o h (fun X Y w => EndI X Y cX13_ticketFrom rm_X13_ticketFrom .int w) (fun _ _ h => h) (fun X A Q hX C => ?_)
  replace C : Cx X (Ym cy ad G A 2 Q) cX13_ticketFrom RX13 (some .int) rm_X13_ticketFrom (tym cy) := C
  show T X (Ym cy ad G A 2 Q) (fun w => EndI X (Ym cy ad G A 2 Q) cX13_ticketFrom rm_X13_ticketFrom .int w) 0 0 0 [(0, .ref (ad 0)), (1, vi x1)] [] σ (f_X13_ticketFrom N σ x1)
  unfold f_X13_ticketFrom
  refine T_aload_n (pc := 0) C dX13_ticketFrom_0 rfl 0 rfl ?_
  refine T_iload_n (pc := 1) C dX13_ticketFrom_1 rfl 1 rfl ?_
  refine T_iconst (pc := 2) C dX13_ticketFrom_2 ?_
  refine T_callVi (pc := 3) C [vi x1, vi 3] [] (fun o h9 hw => ct_X13_ofTicket N σ x1 3 h1 (rngL rfl) hw o h9) kw_413 cm_X13_ofTicket rcm rfl rfl (Nat.le_of_ble_eq_true rfl) (by decide) (a' := 0) (b' := 0) ⟨rfl, rfl⟩ dX13_ticketFrom_3 (fun v1 hv1 => ?_)
  exact T_iret (pc := 6) (v1.1, v1.2) (fun h9 => h9) hv1.1 (nar_I _) (by decide) dX13_ticketFrom_6

abbrev rm_X13_ticketTo : Room := ⟨3, 0, 0, 66⟩
theorem cm_X13_ticketTo : cmV yX13_ticketTo cX13_ticketTo 2 (some .int) 1 := ⟨kw_104, kw_145, ⟨by decide +kernel, by decide +kernel, by decide +kernel⟩, kw_420, kw_421⟩
def f_X13_ticketTo (N : Nat) (σ : Sm) (x1 : Int) : Option (Sm × Int) :=
  (f_X13_ofTicket N σ x1 4).bind fun v1 => some (v1.1, v1.2)
theorem ct_X13_ticketTo {l : Launch} {cy : ClassId} {ad : Nat → Nat} {G : va_G} (N : Nat) (σ : Sm) (x1 : Int) (h1 : rng x1) (hw : wfm σ) (o : Sm × Int) (h : f_X13_ticketTo N σ x1 = some o) : CtI l yX13_ticketTo cX13_ticketTo 2 (some .int) rm_X13_ticketTo (wlm cy ad) wfm G (tym cy) [.ref (ad 0), vi x1] σ o.1 o.2 := by
  refine ctI_of (by decide) (Nat.le_of_ble_eq_true rfl) hw o o h (fun X Y w => EndI X Y cX13_ticketTo rm_X13_ticketTo .int w) (fun _ _ h => h) (fun X A Q hX C => ?_)
  replace C : Cx X (Ym cy ad G A 2 Q) cX13_ticketTo RX13 (some .int) rm_X13_ticketTo (tym cy) := C
  show T X (Ym cy ad G A 2 Q) (fun w => EndI X (Ym cy ad G A 2 Q) cX13_ticketTo rm_X13_ticketTo .int w) 0 0 0 [(0, .ref (ad 0)), (1, vi x1)] [] σ (f_X13_ticketTo N σ x1)
  unfold f_X13_ticketTo
  refine T_aload_n (pc := 0) C dX13_ticketTo_0 rfl 0 rfl ?_
  refine T_iload_n (pc := 1) C dX13_ticketTo_1 rfl 1 rfl ?_
  refine T_iconst (pc := 2) C dX13_ticketTo_2 ?_
  refine T_callVi (pc := 3) C [vi x1, vi 4] [] (fun o h9 hw => ct_X13_ofTicket N σ x1 4 h1 (rngL rfl) hw o h9) kw_413 cm_X13_ofTicket rcm rfl rfl (Nat.le_of_ble_eq_true rfl) (by decide) (a' := 0) (b' := 0) ⟨rfl, rfl⟩ dX13_ticketTo_3 (fun v1 hv1 => ?_)
  exact T_iret (pc := 6) (v1.1, v1.2) (fun h9 => h9) hv1.1 (nar_I _) (by decide) dX13_ticketTo_6

abbrev rm_X13_ticketPrice : Room := ⟨3, 0, 0, 66⟩
theorem cm_X13_ticketPrice : cmV yX13_ticketPrice cX13_ticketPrice 2 (some .int) 1 := ⟨kw_105, kw_145, ⟨by decide +kernel, by decide +kernel, by decide +kernel⟩, kw_422, kw_423⟩
def f_X13_ticketPrice (N : Nat) (σ : Sm) (x1 : Int) : Option (Sm × Int) :=
  (f_X13_ofTicket N σ x1 5).bind fun v1 => some (v1.1, v1.2)
theorem ct_X13_ticketPrice {l : Launch} {cy : ClassId} {ad : Nat → Nat} {G : va_G} (N : Nat) (σ : Sm) (x1 : Int) (h1 : rng x1) (hw : wfm σ) (o : Sm × Int) (h : f_X13_ticketPrice N σ x1 = some o) : CtI l yX13_ticketPrice cX13_ticketPrice 2 (some .int) rm_X13_ticketPrice (wlm cy ad) wfm G (tym cy) [.ref (ad 0), vi x1] σ o.1 o.2 := by
  refine ctI_of (by decide) (Nat.le_of_ble_eq_true rfl) hw o o h (fun X Y w => EndI X Y cX13_ticketPrice rm_X13_ticketPrice .int w) (fun _ _ h => h) (fun X A Q hX C => ?_)
  replace C : Cx X (Ym cy ad G A 2 Q) cX13_ticketPrice RX13 (some .int) rm_X13_ticketPrice (tym cy) := C
  show T X (Ym cy ad G A 2 Q) (fun w => EndI X (Ym cy ad G A 2 Q) cX13_ticketPrice rm_X13_ticketPrice .int w) 0 0 0 [(0, .ref (ad 0)), (1, vi x1)] [] σ (f_X13_ticketPrice N σ x1)
  unfold f_X13_ticketPrice
  refine T_aload_n (pc := 0) C dX13_ticketPrice_0 rfl 0 rfl ?_
  refine T_iload_n (pc := 1) C dX13_ticketPrice_1 rfl 1 rfl ?_
  refine T_iconst (pc := 2) C dX13_ticketPrice_2 ?_
  refine T_callVi (pc := 3) C [vi x1, vi 5] [] (fun o h9 hw => ct_X13_ofTicket N σ x1 5 h1 (rngL rfl) hw o h9) kw_413 cm_X13_ofTicket rcm rfl rfl (Nat.le_of_ble_eq_true rfl) (by decide) (a' := 0) (b' := 0) ⟨rfl, rfl⟩ dX13_ticketPrice_3 (fun v1 hv1 => ?_)
  exact T_iret (pc := 6) (v1.1, v1.2) (fun h9 => h9) hv1.1 (nar_I _) (by decide) dX13_ticketPrice_6

abbrev rm_X13_income : Room := ⟨1, 0, 0, 21⟩
theorem cm_X13_income : cmV yX13_income cX13_income 1 (some .int) 0 := ⟨kw_106, kw_145, ⟨by decide +kernel, by decide +kernel, by decide +kernel⟩, kw_424, kw_425⟩
def f_X13_income (σ : Sm) : Option (Sm × Int) :=
  (f_X13_plain σ (σ 1 7)).bind fun v2 => some (v2.1, v2.2)
theorem ct_X13_income {l : Launch} {cy : ClassId} {ad : Nat → Nat} {G : va_G} (σ : Sm) (hw : wfm σ) (o : Sm × Int) (h : f_X13_income σ = some o) : CtI l yX13_income cX13_income 1 (some .int) rm_X13_income (wlm cy ad) wfm G (tym cy) [.ref (ad 0)] σ o.1 o.2 := by
  refine ctI_of (by decide) (Nat.le_of_ble_eq_true rfl) hw o o h (fun X Y w => EndI X Y cX13_income rm_X13_income .int w) (fun _ _ h => h) (fun X A Q hX C => ?_)
  replace C : Cx X (Ym cy ad G A 1 Q) cX13_income RX13 (some .int) rm_X13_income (tym cy) := C
  show T X (Ym cy ad G A 1 Q) (fun w => EndI X (Ym cy ad G A 1 Q) cX13_income rm_X13_income .int w) 0 0 0 [(0, .ref (ad 0))] [] σ (f_X13_income σ)
  unfold f_X13_income
  refine T_aload_n (pc := 0) C dX13_income_0 rfl 0 rfl ?_
  refine T_aload_n (pc := 1) C dX13_income_1 rfl 0 rfl ?_
  refine Tm_getA (pc := 2) C 0 1 (by decide) (fun _ => rfl) kw_152 rfl dX13_income_2 ?_
  refine T_bipush (pc := 5) C dX13_income_5 (by decide) ?_
  refine Tm_iald (pc := 7) C 1 7 ⟨by decide, by decide⟩ ⟨by decide, by decide⟩ rfl dX13_income_7 (fun r1 => ?_)
  refine T_callVi (pc := 8) C [vi (σ 1 7)] [] (fun o h9 hw => ct_X13_plain σ (σ 1 7) r1 hw o h9) kw_314 cm_X13_plain rcm rfl rfl (Nat.le_of_ble_eq_true rfl) (by decide) (a' := 0) (b' := 0) ⟨rfl, rfl⟩ dX13_income_8 (fun v2 hv2 => ?_)
  exact T_iret (pc := 11) (v2.1, v2.2) (fun h9 => h9) hv2.1 (nar_I _) (by decide) dX13_income_11

abbrev rm_X13_refundedCoins : Room := ⟨1, 0, 0, 21⟩
theorem cm_X13_refundedCoins : cmV yX13_refundedCoins cX13_refundedCoins 1 (some .int) 0 := ⟨kw_107, kw_145, ⟨by decide +kernel, by decide +kernel, by decide +kernel⟩, kw_426, kw_427⟩
def f_X13_refundedCoins (σ : Sm) : Option (Sm × Int) :=
  (f_X13_plain σ (σ 1 8)).bind fun v2 => some (v2.1, v2.2)
theorem ct_X13_refundedCoins {l : Launch} {cy : ClassId} {ad : Nat → Nat} {G : va_G} (σ : Sm) (hw : wfm σ) (o : Sm × Int) (h : f_X13_refundedCoins σ = some o) : CtI l yX13_refundedCoins cX13_refundedCoins 1 (some .int) rm_X13_refundedCoins (wlm cy ad) wfm G (tym cy) [.ref (ad 0)] σ o.1 o.2 := by
  refine ctI_of (by decide) (Nat.le_of_ble_eq_true rfl) hw o o h (fun X Y w => EndI X Y cX13_refundedCoins rm_X13_refundedCoins .int w) (fun _ _ h => h) (fun X A Q hX C => ?_)
  replace C : Cx X (Ym cy ad G A 1 Q) cX13_refundedCoins RX13 (some .int) rm_X13_refundedCoins (tym cy) := C
  show T X (Ym cy ad G A 1 Q) (fun w => EndI X (Ym cy ad G A 1 Q) cX13_refundedCoins rm_X13_refundedCoins .int w) 0 0 0 [(0, .ref (ad 0))] [] σ (f_X13_refundedCoins σ)
  unfold f_X13_refundedCoins
  refine T_aload_n (pc := 0) C dX13_refundedCoins_0 rfl 0 rfl ?_
  refine T_aload_n (pc := 1) C dX13_refundedCoins_1 rfl 0 rfl ?_
  refine Tm_getA (pc := 2) C 0 1 (by decide) (fun _ => rfl) kw_152 rfl dX13_refundedCoins_2 ?_
  refine T_bipush (pc := 5) C dX13_refundedCoins_5 (by decide) ?_
  refine Tm_iald (pc := 7) C 1 8 ⟨by decide, by decide⟩ ⟨by decide, by decide⟩ rfl dX13_refundedCoins_7 (fun r1 => ?_)
  refine T_callVi (pc := 8) C [vi (σ 1 8)] [] (fun o h9 hw => ct_X13_plain σ (σ 1 8) r1 hw o h9) kw_314 cm_X13_plain rcm rfl rfl (Nat.le_of_ble_eq_true rfl) (by decide) (a' := 0) (b' := 0) ⟨rfl, rfl⟩ dX13_refundedCoins_8 (fun v2 hv2 => ?_)
  exact T_iret (pc := 11) (v2.1, v2.2) (fun h9 => h9) hv2.1 (nar_I _) (by decide) dX13_refundedCoins_11

abbrev rm_X13_usedTickets : Room := ⟨1, 0, 0, 21⟩
theorem cm_X13_usedTickets : cmV yX13_usedTickets cX13_usedTickets 1 (some .int) 0 := ⟨kw_108, kw_145, ⟨by decide +kernel, by decide +kernel, by decide +kernel⟩, kw_428, kw_429⟩
def f_X13_usedTickets (σ : Sm) : Option (Sm × Int) :=
  (f_X13_plain σ (σ 1 9)).bind fun v2 => some (v2.1, v2.2)
theorem ct_X13_usedTickets {l : Launch} {cy : ClassId} {ad : Nat → Nat} {G : va_G} (σ : Sm) (hw : wfm σ) (o : Sm × Int) (h : f_X13_usedTickets σ = some o) : CtI l yX13_usedTickets cX13_usedTickets 1 (some .int) rm_X13_usedTickets (wlm cy ad) wfm G (tym cy) [.ref (ad 0)] σ o.1 o.2 := by
  refine ctI_of (by decide) (Nat.le_of_ble_eq_true rfl) hw o o h (fun X Y w => EndI X Y cX13_usedTickets rm_X13_usedTickets .int w) (fun _ _ h => h) (fun X A Q hX C => ?_)
  replace C : Cx X (Ym cy ad G A 1 Q) cX13_usedTickets RX13 (some .int) rm_X13_usedTickets (tym cy) := C
  show T X (Ym cy ad G A 1 Q) (fun w => EndI X (Ym cy ad G A 1 Q) cX13_usedTickets rm_X13_usedTickets .int w) 0 0 0 [(0, .ref (ad 0))] [] σ (f_X13_usedTickets σ)
  unfold f_X13_usedTickets
  refine T_aload_n (pc := 0) C dX13_usedTickets_0 rfl 0 rfl ?_
  refine T_aload_n (pc := 1) C dX13_usedTickets_1 rfl 0 rfl ?_
  refine Tm_getA (pc := 2) C 0 1 (by decide) (fun _ => rfl) kw_152 rfl dX13_usedTickets_2 ?_
  refine T_bipush (pc := 5) C dX13_usedTickets_5 (by decide) ?_
  refine Tm_iald (pc := 7) C 1 9 ⟨by decide, by decide⟩ ⟨by decide, by decide⟩ rfl dX13_usedTickets_7 (fun r1 => ?_)
  refine T_callVi (pc := 8) C [vi (σ 1 9)] [] (fun o h9 hw => ct_X13_plain σ (σ 1 9) r1 hw o h9) kw_314 cm_X13_plain rcm rfl rfl (Nat.le_of_ble_eq_true rfl) (by decide) (a' := 0) (b' := 0) ⟨rfl, rfl⟩ dX13_usedTickets_8 (fun v2 hv2 => ?_)
  exact T_iret (pc := 11) (v2.1, v2.2) (fun h9 => h9) hv2.1 (nar_I _) (by decide) dX13_usedTickets_11

abbrev rm_X13_isLineAhead : Room := ⟨2, 0, 0, 45⟩
theorem cm_X13_isLineAhead : cmV yX13_isLineAhead cX13_isLineAhead 3 (some .boolean) 2 := ⟨kw_109, kw_145, ⟨by decide +kernel, by decide +kernel, by decide +kernel⟩, kw_430, kw_431⟩
def f_X13_isLineAhead (N : Nat) (σ : Sm) (x1 : Int) (x2 : Int) : Option Int :=
  (f_X13_ticketsOf N σ x1).bind fun v1 => (f_X13_ticketsOf N σ x2).bind fun v2 => (if v1 = v2 then (f_X13_l σ x1 4).bind fun v4 => (f_X13_l σ x2 4).bind fun v5 => (if v4 < v5 then some 1 else (f_X13_l σ x1 4).bind fun v7 => (f_X13_l σ x2 4).bind fun v8 => (if v7 = v8 then (if x2 ≤ x1 then some 0 else some 1) else some 0)) else (f_X13_ticketsOf N σ x1).bind fun v11 => (f_X13_ticketsOf N σ x2).bind fun v12 => (if v11 ≤ v12 then some 0 else some 1))
theorem ct_X13_isLineAhead {l : Launch} {cy : ClassId} {ad : Nat → Nat} {G : va_G} (N : Nat) (σ : Sm) (x1 : Int) (x2 : Int) (h1 : rng x1) (h2 : rng x2) (hw : wfm σ) (o : Int) (h : f_X13_isLineAhead N σ x1 x2 = some o) : CtI l yX13_isLineAhead cX13_isLineAhead 3 (some .boolean) rm_X13_isLineAhead (wlm cy ad) wfm G (tym cy) [.ref (ad 0), vi x1, vi x2] σ σ o := by
  refine ctI_of (by decide) (Nat.le_of_ble_eq_true rfl) hw (σ, o) o h (fun X Y v => EndI X Y cX13_isLineAhead rm_X13_isLineAhead .boolean (σ, v)) (fun _ _ h => h) (fun X A Q hX C => ?_)
  replace C : Cx X (Ym cy ad G A 3 Q) cX13_isLineAhead RX13 (some .boolean) rm_X13_isLineAhead (tym cy) := C
  show T X (Ym cy ad G A 3 Q) (fun v => EndI X (Ym cy ad G A 3 Q) cX13_isLineAhead rm_X13_isLineAhead .boolean (σ, v)) 0 0 0 [(0, .ref (ad 0)), (1, vi x1), (2, vi x2)] [] σ (f_X13_isLineAhead N σ x1 x2)
  unfold f_X13_isLineAhead
  refine T_aload_n (pc := 0) C dX13_isLineAhead_0 rfl 0 rfl ?_
  refine T_iload_n (pc := 1) C dX13_isLineAhead_1 rfl 1 rfl ?_
  refine T_callVip (pc := 2) C [vi x1] [] (fun o h9 hw => ct_X13_ticketsOf N σ x1 h1 hw o h9) kw_241 cm_X13_ticketsOf rcm rfl rfl (Nat.le_of_ble_eq_true rfl) (by decide) (a' := 0) (b' := 0) ⟨rfl, rfl⟩ dX13_isLineAhead_2 (fun v1 hv1 => ?_)
  refine T_aload_n (pc := 5) C dX13_isLineAhead_5 rfl 0 rfl ?_
  refine T_iload_n (pc := 6) C dX13_isLineAhead_6 rfl 2 rfl ?_
  refine T_callVip (pc := 7) C [vi x2] [vi v1] (fun o h9 hw => ct_X13_ticketsOf N σ x2 h2 hw o h9) kw_241 cm_X13_ticketsOf rcm rfl rfl (Nat.le_of_ble_eq_true rfl) (by decide) (a' := 0) (b' := 0) ⟨rfl, rfl⟩ dX13_isLineAhead_7 (fun v2 hv2 => ?_)
  refine T_icmp_eq (pc := 10) C 32 dX13_isLineAhead_10 rfl hv1.1 hv2.1 (fun c3 => ?_) (fun c3 => ?_)
  · refine T_aload_n (pc := 32) C dX13_isLineAhead_32 rfl 0 rfl ?_
    refine T_iload_n (pc := 33) C dX13_isLineAhead_33 rfl 1 rfl ?_
    refine T_iconst (pc := 34) C dX13_isLineAhead_34 ?_
    refine T_callVip (pc := 35) C [vi x1, vi 4] [] (fun o h9 hw => ct_X13_l σ x1 4 h1 (rngL rfl) hw o h9) kw_211 cm_X13_l rcm rfl rfl (Nat.le_of_ble_eq_true rfl) (by decide) (a' := 0) (b' := 0) ⟨rfl, rfl⟩ dX13_isLineAhead_35 (fun v4 hv4 => ?_)
    refine T_aload_n (pc := 38) C dX13_isLineAhead_38 rfl 0 rfl ?_
    refine T_iload_n (pc := 39) C dX13_isLineAhead_39 rfl 2 rfl ?_
    refine T_iconst (pc := 40) C dX13_isLineAhead_40 ?_
    refine T_callVip (pc := 41) C [vi x2, vi 4] [vi v4] (fun o h9 hw => ct_X13_l σ x2 4 h2 (rngL rfl) hw o h9) kw_211 cm_X13_l rcm rfl rfl (Nat.le_of_ble_eq_true rfl) (by decide) (a' := 0) (b' := 0) ⟨rfl, rfl⟩ dX13_isLineAhead_41 (fun v5 hv5 => ?_)
    refine T_icmp_lt (pc := 44) C 67 dX13_isLineAhead_44 rfl hv4.1 hv5.1 (fun c6 => ?_) (fun c6 => ?_)
    · refine T_iconst (pc := 67) C dX13_isLineAhead_67 ?_
      refine T_goto (pc := 68) C 72 dX13_isLineAhead_68 rfl ?_
      exact T_iret (pc := 72) 1 (fun h9 => h9) (rngL rfl) (nar_Z (Or.inr rfl)) (by decide) dX13_isLineAhead_72
    · refine T_aload_n (pc := 47) C dX13_isLineAhead_47 rfl 0 rfl ?_
      refine T_iload_n (pc := 48) C dX13_isLineAhead_48 rfl 1 rfl ?_
      refine T_iconst (pc := 49) C dX13_isLineAhead_49 ?_
      refine T_callVip (pc := 50) C [vi x1, vi 4] [] (fun o h9 hw => ct_X13_l σ x1 4 h1 (rngL rfl) hw o h9) kw_211 cm_X13_l rcm rfl rfl (Nat.le_of_ble_eq_true rfl) (by decide) (a' := 0) (b' := 0) ⟨rfl, rfl⟩ dX13_isLineAhead_50 (fun v7 hv7 => ?_)
      refine T_aload_n (pc := 53) C dX13_isLineAhead_53 rfl 0 rfl ?_
      refine T_iload_n (pc := 54) C dX13_isLineAhead_54 rfl 2 rfl ?_
      refine T_iconst (pc := 55) C dX13_isLineAhead_55 ?_
      refine T_callVip (pc := 56) C [vi x2, vi 4] [vi v7] (fun o h9 hw => ct_X13_l σ x2 4 h2 (rngL rfl) hw o h9) kw_211 cm_X13_l rcm rfl rfl (Nat.le_of_ble_eq_true rfl) (by decide) (a' := 0) (b' := 0) ⟨rfl, rfl⟩ dX13_isLineAhead_56 (fun v8 hv8 => ?_)
      refine T_icmp_ne (pc := 59) C 71 dX13_isLineAhead_59 rfl hv7.1 hv8.1 (fun c9 => ?_) (fun c9 => ?_)
      · refine T_iconst (pc := 71) C dX13_isLineAhead_71 ?_
        exact T_iret (pc := 72) 0 (fun h9 => h9) (rngL rfl) (nar_Z (Or.inl rfl)) (by decide) dX13_isLineAhead_72
      · refine T_iload_n (pc := 62) C dX13_isLineAhead_62 rfl 1 rfl ?_
        refine T_iload_n (pc := 63) C dX13_isLineAhead_63 rfl 2 rfl ?_
        refine T_icmp_ge (pc := 64) C 71 dX13_isLineAhead_64 rfl h1 h2 (fun c10 => ?_) (fun c10 => ?_)
        · refine T_iconst (pc := 71) C dX13_isLineAhead_71 ?_
          exact T_iret (pc := 72) 0 (fun h9 => h9) (rngL rfl) (nar_Z (Or.inl rfl)) (by decide) dX13_isLineAhead_72
        · refine T_iconst (pc := 67) C dX13_isLineAhead_67 ?_
          refine T_goto (pc := 68) C 72 dX13_isLineAhead_68 rfl ?_
          exact T_iret (pc := 72) 1 (fun h9 => h9) (rngL rfl) (nar_Z (Or.inr rfl)) (by decide) dX13_isLineAhead_72
  · refine T_aload_n (pc := 13) C dX13_isLineAhead_13 rfl 0 rfl ?_
    refine T_iload_n (pc := 14) C dX13_isLineAhead_14 rfl 1 rfl ?_
    refine T_callVip (pc := 15) C [vi x1] [] (fun o h9 hw => ct_X13_ticketsOf N σ x1 h1 hw o h9) kw_241 cm_X13_ticketsOf rcm rfl rfl (Nat.le_of_ble_eq_true rfl) (by decide) (a' := 0) (b' := 0) ⟨rfl, rfl⟩ dX13_isLineAhead_15 (fun v11 hv11 => ?_)
    refine T_aload_n (pc := 18) C dX13_isLineAhead_18 rfl 0 rfl ?_
    refine T_iload_n (pc := 19) C dX13_isLineAhead_19 rfl 2 rfl ?_
    refine T_callVip (pc := 20) C [vi x2] [vi v11] (fun o h9 hw => ct_X13_ticketsOf N σ x2 h2 hw o h9) kw_241 cm_X13_ticketsOf rcm rfl rfl (Nat.le_of_ble_eq_true rfl) (by decide) (a' := 0) (b' := 0) ⟨rfl, rfl⟩ dX13_isLineAhead_20 (fun v12 hv12 => ?_)
    refine T_icmp_le (pc := 23) C 30 dX13_isLineAhead_23 rfl hv11.1 hv12.1 (fun c13 => ?_) (fun c13 => ?_)
    · refine T_iconst (pc := 30) C dX13_isLineAhead_30 ?_
      exact T_iret (pc := 31) 0 (fun h9 => h9) (rngL rfl) (nar_Z (Or.inl rfl)) (by decide) dX13_isLineAhead_31
    · refine T_iconst (pc := 26) C dX13_isLineAhead_26 ?_
      refine T_goto (pc := 27) C 31 dX13_isLineAhead_27 rfl ?_
      exact T_iret (pc := 31) 1 (fun h9 => h9) (rngL rfl) (nar_Z (Or.inr rfl)) (by decide) dX13_isLineAhead_31

abbrev rm_X13_ringsOf : Room := ⟨2, 0, 0, 45⟩
theorem cm_X13_ringsOf : cmV yX13_ringsOf cX13_ringsOf 4 (some .int) 1 := ⟨kw_110, kw_145, ⟨by decide +kernel, by decide +kernel, by decide +kernel⟩, kw_432, kw_433⟩
def f_X13_ringsOf_4 (N : Nat) (σ : Sm) (x1 : Int) : Nat → Int → Int → Option (Int)
  | 0, _, _ => none
  | n + 1, x2, x3 => (if (σ 1 2) ≤ x3 then some x2 else (f_X13_placeIn N σ x3 x1).bind fun v16 => (if v16 < 0 then bl (x2 + 0) fun v18 => if rng v18 then f_X13_ringsOf_4 N σ x1 n v18 (x3 + 1) else none else bl (x2 + 1) fun v20 => if rng v20 then f_X13_ringsOf_4 N σ x1 n v20 (x3 + 1) else none))
theorem lp_X13_ringsOf_4 {X : vjX} {A : Nat → Prop} {Q : State → Prop} {cy : ClassId} {ad : Nat → Nat} {G : va_G} (C : Cx X (Ym cy ad G A 4 Q) cX13_ringsOf RX13 (some .int) rm_X13_ringsOf (tym cy)) (N : Nat) (σ : Sm) (x1 : Int) (h1 : rng x1) : ∀ (n : Nat) (x2 : Int) (x3 : Int) (h2 : rng x2) (h3 : rng x3), T X (Ym cy ad G A 4 Q) (fun (q : Int) => rng q → J X (Ym cy ad G A 4 Q) 0 0 37 [(2, vi q)] [] σ) 0 0 4 [(0, .ref (ad 0)), (1, vi x1), (2, vi x2), (3, vi x3)] [] σ (f_X13_ringsOf_4 N σ x1 n x2 x3) := by
  intro n
  induction n with
  | zero => intro x2 x3 h2 h3; exact T_none
  | succ n ih =>
    intro x2 x3 h2 h3
    rw [f_X13_ringsOf_4]
    refine T_iload_n (pc := 4) C dX13_ringsOf_4 rfl 3 rfl ?_
    refine T_aload_n (pc := 5) C dX13_ringsOf_5 rfl 0 rfl ?_
    refine Tm_getA (pc := 6) C 0 1 (by decide) (fun _ => rfl) kw_152 rfl dX13_ringsOf_6 ?_
    refine T_iconst (pc := 9) C dX13_ringsOf_9 ?_
    refine Tm_iald (pc := 10) C 1 2 ⟨by decide, by decide⟩ ⟨by decide, by decide⟩ rfl dX13_ringsOf_10 (fun r14 => ?_)
    refine T_icmp_ge (pc := 11) C 37 dX13_ringsOf_11 rfl h3 r14 (fun c15 => ?_) (fun c15 => ?_)
    · refine T_sub (L' := [(2, vi x2)]) [2] rfl ?_
      exact T_exit (fun h9 => h9 h2)
    · refine T_iload_n (pc := 14) C dX13_ringsOf_14 rfl 2 rfl ?_
      refine T_aload_n (pc := 15) C dX13_ringsOf_15 rfl 0 rfl ?_
      refine T_iload_n (pc := 16) C dX13_ringsOf_16 rfl 3 rfl ?_
      refine T_iload_n (pc := 17) C dX13_ringsOf_17 rfl 1 rfl ?_
      refine T_callVip (pc := 18) C [vi x3, vi x1] [vi x2] (fun o h9 hw => ct_X13_placeIn N σ x3 x1 h3 h1 hw o h9) kw_242 cm_X13_placeIn rcm rfl rfl (Nat.le_of_ble_eq_true rfl) (by decide) (a' := 0) (b' := 0) ⟨rfl, rfl⟩ dX13_ringsOf_18 (fun v16 hv16 => ?_)
      refine T_if_lt (pc := 21) C 28 dX13_ringsOf_21 rfl hv16.1 (fun c17 => ?_) (fun c17 => ?_)
      · refine T_iconst (pc := 28) C dX13_ringsOf_28 ?_
        refine T_iadd (pc := 29) C dX13_ringsOf_29 ?_
        refine T_blN (fun v18 => ?_)
        refine T_istore_n (pc := 30) (L' := [(2, vi v18), (0, .ref (ad 0)), (1, vi x1), (3, vi x3)]) C dX13_ringsOf_30 rfl (Nat.le_of_ble_eq_true rfl) rfl ?_
        refine T_iinc (pc := 31) (L' := [(3, vi (x3 + 1)), (2, vi v18), (0, .ref (ad 0)), (1, vi x1)]) C dX13_ringsOf_31 (Nat.le_of_ble_eq_true rfl) 3 rfl rfl ?_
        refine T_goto (pc := 34) C 4 dX13_ringsOf_34 rfl ?_
        refine T_sub (L' := [(0, .ref (ad 0)), (1, vi x1), (2, vi v18), (3, vi (x3 + 1))]) [2, 3, 1, 0] rfl ?_
        refine T_guard (fun g19 => ?_)
        exact ih v18 (x3 + 1) g19 (rng_inc c15 h3 r14)
      · refine T_iconst (pc := 24) C dX13_ringsOf_24 ?_
        refine T_goto (pc := 25) C 29 dX13_ringsOf_25 rfl ?_
        refine T_iadd (pc := 29) C dX13_ringsOf_29 ?_
        refine T_blN (fun v20 => ?_)
        refine T_istore_n (pc := 30) (L' := [(2, vi v20), (0, .ref (ad 0)), (1, vi x1), (3, vi x3)]) C dX13_ringsOf_30 rfl (Nat.le_of_ble_eq_true rfl) rfl ?_
        refine T_iinc (pc := 31) (L' := [(3, vi (x3 + 1)), (2, vi v20), (0, .ref (ad 0)), (1, vi x1)]) C dX13_ringsOf_31 (Nat.le_of_ble_eq_true rfl) 3 rfl rfl ?_
        refine T_goto (pc := 34) C 4 dX13_ringsOf_34 rfl ?_
        refine T_sub (L' := [(0, .ref (ad 0)), (1, vi x1), (2, vi v20), (3, vi (x3 + 1))]) [2, 3, 1, 0] rfl ?_
        refine T_guard (fun g21 => ?_)
        exact ih v20 (x3 + 1) g21 (rng_inc c15 h3 r14)
def f_X13_ringsOf (N : Nat) (σ : Sm) (x1 : Int) : Option Int :=
  (f_X13_ringsOf_4 N σ x1 N 0 0).bind fun q22 => some q22
theorem ct_X13_ringsOf {l : Launch} {cy : ClassId} {ad : Nat → Nat} {G : va_G} (N : Nat) (σ : Sm) (x1 : Int) (h1 : rng x1) (hw : wfm σ) (o : Int) (h : f_X13_ringsOf N σ x1 = some o) : CtI l yX13_ringsOf cX13_ringsOf 4 (some .int) rm_X13_ringsOf (wlm cy ad) wfm G (tym cy) [.ref (ad 0), vi x1] σ σ o := by
  refine ctI_of (by decide) (Nat.le_of_ble_eq_true rfl) hw (σ, o) o h (fun X Y v => EndI X Y cX13_ringsOf rm_X13_ringsOf .int (σ, v)) (fun _ _ h => h) (fun X A Q hX C => ?_)
  replace C : Cx X (Ym cy ad G A 4 Q) cX13_ringsOf RX13 (some .int) rm_X13_ringsOf (tym cy) := C
  show T X (Ym cy ad G A 4 Q) (fun v => EndI X (Ym cy ad G A 4 Q) cX13_ringsOf rm_X13_ringsOf .int (σ, v)) 0 0 0 [(0, .ref (ad 0)), (1, vi x1)] [] σ (f_X13_ringsOf N σ x1)
  unfold f_X13_ringsOf
  refine T_iconst (pc := 0) C dX13_ringsOf_0 ?_
  refine T_istore_n (pc := 1) (L' := [(2, vi 0), (0, .ref (ad 0)), (1, vi x1)]) C dX13_ringsOf_1 rfl (Nat.le_of_ble_eq_true rfl) rfl ?_
  refine T_iconst (pc := 2) C dX13_ringsOf_2 ?_
  refine T_istore_n (pc := 3) (L' := [(3, vi 0), (2, vi 0), (0, .ref (ad 0)), (1, vi x1)]) C dX13_ringsOf_3 rfl (Nat.le_of_ble_eq_true rfl) rfl ?_
  refine T_sub (L' := [(0, .ref (ad 0)), (1, vi x1), (2, vi 0), (3, vi 0)]) [2, 3, 1, 0] rfl ?_
  refine T_loopE (lp_X13_ringsOf_4 C N σ x1 h1 N 0 0 (rngL rfl) (rngL rfl)) (fun q22 hq22 => ?_)
  refine T_iload_n (pc := 37) C dX13_ringsOf_37 rfl 0 rfl ?_
  exact T_iret (pc := 38) q22 (fun h9 => h9) hq22 (nar_I _) (by decide) dX13_ringsOf_38

abbrev rm_X13_walksOf : Room := ⟨1, 0, 0, 22⟩
theorem cm_X13_walksOf : cmV yX13_walksOf cX13_walksOf 4 (some .int) 1 := ⟨kw_111, kw_145, ⟨by decide +kernel, by decide +kernel, by decide +kernel⟩, kw_434, kw_435⟩
def f_X13_walksOf_4 (σ : Sm) (x1 : Int) : Nat → Int → Int → Option (Int)
  | 0, _, _ => none
  | n + 1, x2, x3 => (if (σ 1 0) ≤ x3 then some x2 else (f_X13_walk σ x1 x3).bind fun v16 => (if v16 ≤ 0 then bl (x2 + 0) fun v18 => if rng v18 then f_X13_walksOf_4 σ x1 n v18 (x3 + 1) else none else bl (x2 + 1) fun v20 => if rng v20 then f_X13_walksOf_4 σ x1 n v20 (x3 + 1) else none))
theorem lp_X13_walksOf_4 {X : vjX} {A : Nat → Prop} {Q : State → Prop} {cy : ClassId} {ad : Nat → Nat} {G : va_G} (C : Cx X (Ym cy ad G A 4 Q) cX13_walksOf RX13 (some .int) rm_X13_walksOf (tym cy)) (σ : Sm) (x1 : Int) (h1 : rng x1) : ∀ (n : Nat) (x2 : Int) (x3 : Int) (h2 : rng x2) (h3 : rng x3), T X (Ym cy ad G A 4 Q) (fun (q : Int) => rng q → J X (Ym cy ad G A 4 Q) 0 0 37 [(2, vi q)] [] σ) 0 0 4 [(0, .ref (ad 0)), (1, vi x1), (2, vi x2), (3, vi x3)] [] σ (f_X13_walksOf_4 σ x1 n x2 x3) := by
  intro n
  induction n with
  | zero => intro x2 x3 h2 h3; exact T_none
  | succ n ih =>
    intro x2 x3 h2 h3
    rw [f_X13_walksOf_4]
    refine T_iload_n (pc := 4) C dX13_walksOf_4 rfl 3 rfl ?_
    refine T_aload_n (pc := 5) C dX13_walksOf_5 rfl 0 rfl ?_
    refine Tm_getA (pc := 6) C 0 1 (by decide) (fun _ => rfl) kw_152 rfl dX13_walksOf_6 ?_
    refine T_iconst (pc := 9) C dX13_walksOf_9 ?_
    refine Tm_iald (pc := 10) C 1 0 ⟨by decide, by decide⟩ ⟨by decide, by decide⟩ rfl dX13_walksOf_10 (fun r14 => ?_)
    refine T_icmp_ge (pc := 11) C 37 dX13_walksOf_11 rfl h3 r14 (fun c15 => ?_) (fun c15 => ?_)
    · refine T_sub (L' := [(2, vi x2)]) [2] rfl ?_
      exact T_exit (fun h9 => h9 h2)
    · refine T_iload_n (pc := 14) C dX13_walksOf_14 rfl 2 rfl ?_
      refine T_aload_n (pc := 15) C dX13_walksOf_15 rfl 0 rfl ?_
      refine T_iload_n (pc := 16) C dX13_walksOf_16 rfl 1 rfl ?_
      refine T_iload_n (pc := 17) C dX13_walksOf_17 rfl 3 rfl ?_
      refine T_callVip (pc := 18) C [vi x1, vi x3] [vi x2] (fun o h9 hw => ct_X13_walk σ x1 x3 h1 h3 hw o h9) kw_185 cm_X13_walk rcm rfl rfl (Nat.le_of_ble_eq_true rfl) (by decide) (a' := 0) (b' := 0) ⟨rfl, rfl⟩ dX13_walksOf_18 (fun v16 hv16 => ?_)
      refine T_if_le (pc := 21) C 28 dX13_walksOf_21 rfl hv16.1 (fun c17 => ?_) (fun c17 => ?_)
      · refine T_iconst (pc := 28) C dX13_walksOf_28 ?_
        refine T_iadd (pc := 29) C dX13_walksOf_29 ?_
        refine T_blN (fun v18 => ?_)
        refine T_istore_n (pc := 30) (L' := [(2, vi v18), (0, .ref (ad 0)), (1, vi x1), (3, vi x3)]) C dX13_walksOf_30 rfl (Nat.le_of_ble_eq_true rfl) rfl ?_
        refine T_iinc (pc := 31) (L' := [(3, vi (x3 + 1)), (2, vi v18), (0, .ref (ad 0)), (1, vi x1)]) C dX13_walksOf_31 (Nat.le_of_ble_eq_true rfl) 3 rfl rfl ?_
        refine T_goto (pc := 34) C 4 dX13_walksOf_34 rfl ?_
        refine T_sub (L' := [(0, .ref (ad 0)), (1, vi x1), (2, vi v18), (3, vi (x3 + 1))]) [2, 3, 1, 0] rfl ?_
        refine T_guard (fun g19 => ?_)
        exact ih v18 (x3 + 1) g19 (rng_inc c15 h3 r14)
      · refine T_iconst (pc := 24) C dX13_walksOf_24 ?_
        refine T_goto (pc := 25) C 29 dX13_walksOf_25 rfl ?_
        refine T_iadd (pc := 29) C dX13_walksOf_29 ?_
        refine T_blN (fun v20 => ?_)
        refine T_istore_n (pc := 30) (L' := [(2, vi v20), (0, .ref (ad 0)), (1, vi x1), (3, vi x3)]) C dX13_walksOf_30 rfl (Nat.le_of_ble_eq_true rfl) rfl ?_
        refine T_iinc (pc := 31) (L' := [(3, vi (x3 + 1)), (2, vi v20), (0, .ref (ad 0)), (1, vi x1)]) C dX13_walksOf_31 (Nat.le_of_ble_eq_true rfl) 3 rfl rfl ?_
        refine T_goto (pc := 34) C 4 dX13_walksOf_34 rfl ?_
        refine T_sub (L' := [(0, .ref (ad 0)), (1, vi x1), (2, vi v20), (3, vi (x3 + 1))]) [2, 3, 1, 0] rfl ?_
        refine T_guard (fun g21 => ?_)
        exact ih v20 (x3 + 1) g21 (rng_inc c15 h3 r14)
def f_X13_walksOf (N : Nat) (σ : Sm) (x1 : Int) : Option Int :=
  (f_X13_walksOf_4 σ x1 N 0 0).bind fun q22 => some q22
theorem ct_X13_walksOf {l : Launch} {cy : ClassId} {ad : Nat → Nat} {G : va_G} (N : Nat) (σ : Sm) (x1 : Int) (h1 : rng x1) (hw : wfm σ) (o : Int) (h : f_X13_walksOf N σ x1 = some o) : CtI l yX13_walksOf cX13_walksOf 4 (some .int) rm_X13_walksOf (wlm cy ad) wfm G (tym cy) [.ref (ad 0), vi x1] σ σ o := by
  refine ctI_of (by decide) (Nat.le_of_ble_eq_true rfl) hw (σ, o) o h (fun X Y v => EndI X Y cX13_walksOf rm_X13_walksOf .int (σ, v)) (fun _ _ h => h) (fun X A Q hX C => ?_)
  replace C : Cx X (Ym cy ad G A 4 Q) cX13_walksOf RX13 (some .int) rm_X13_walksOf (tym cy) := C
  show T X (Ym cy ad G A 4 Q) (fun v => EndI X (Ym cy ad G A 4 Q) cX13_walksOf rm_X13_walksOf .int (σ, v)) 0 0 0 [(0, .ref (ad 0)), (1, vi x1)] [] σ (f_X13_walksOf N σ x1)
  unfold f_X13_walksOf
  refine T_iconst (pc := 0) C dX13_walksOf_0 ?_
  refine T_istore_n (pc := 1) (L' := [(2, vi 0), (0, .ref (ad 0)), (1, vi x1)]) C dX13_walksOf_1 rfl (Nat.le_of_ble_eq_true rfl) rfl ?_
  refine T_iconst (pc := 2) C dX13_walksOf_2 ?_
  refine T_istore_n (pc := 3) (L' := [(3, vi 0), (2, vi 0), (0, .ref (ad 0)), (1, vi x1)]) C dX13_walksOf_3 rfl (Nat.le_of_ble_eq_true rfl) rfl ?_
  refine T_sub (L' := [(0, .ref (ad 0)), (1, vi x1), (2, vi 0), (3, vi 0)]) [2, 3, 1, 0] rfl ?_
  refine T_loopE (lp_X13_walksOf_4 C σ x1 h1 N 0 0 (rngL rfl) (rngL rfl)) (fun q22 hq22 => ?_)
  refine T_iload_n (pc := 37) C dX13_walksOf_37 rfl 0 rfl ?_
  exact T_iret (pc := 38) q22 (fun h9 => h9) hq22 (nar_I _) (by decide) dX13_walksOf_38

abbrev rm_X13_isStopAhead : Room := ⟨3, 0, 0, 68⟩
theorem cm_X13_isStopAhead : cmV yX13_isStopAhead cX13_isStopAhead 3 (some .boolean) 2 := ⟨kw_112, kw_145, ⟨by decide +kernel, by decide +kernel, by decide +kernel⟩, kw_438, kw_439⟩
def f_X13_isStopAhead (N : Nat) (σ : Sm) (x1 : Int) (x2 : Int) : Option Int :=
  (f_X13_ringsOf N σ x1).bind fun v1 => (f_X13_ringsOf N σ x2).bind fun v2 => (if v1 = v2 then (f_X13_walksOf N σ x1).bind fun v4 => (f_X13_walksOf N σ x2).bind fun v5 => (if v5 < v4 then some 1 else (f_X13_walksOf N σ x1).bind fun v7 => (f_X13_walksOf N σ x2).bind fun v8 => (if v7 = v8 then (if x2 ≤ x1 then some 0 else some 1) else some 0)) else (f_X13_ringsOf N σ x1).bind fun v11 => (f_X13_ringsOf N σ x2).bind fun v12 => (if v11 ≤ v12 then some 0 else some 1))
theorem ct_X13_isStopAhead {l : Launch} {cy : ClassId} {ad : Nat → Nat} {G : va_G} (N : Nat) (σ : Sm) (x1 : Int) (x2 : Int) (h1 : rng x1) (h2 : rng x2) (hw : wfm σ) (o : Int) (h : f_X13_isStopAhead N σ x1 x2 = some o) : CtI l yX13_isStopAhead cX13_isStopAhead 3 (some .boolean) rm_X13_isStopAhead (wlm cy ad) wfm G (tym cy) [.ref (ad 0), vi x1, vi x2] σ σ o := by
  refine ctI_of (by decide) (Nat.le_of_ble_eq_true rfl) hw (σ, o) o h (fun X Y v => EndI X Y cX13_isStopAhead rm_X13_isStopAhead .boolean (σ, v)) (fun _ _ h => h) (fun X A Q hX C => ?_)
  replace C : Cx X (Ym cy ad G A 3 Q) cX13_isStopAhead RX13 (some .boolean) rm_X13_isStopAhead (tym cy) := C
  show T X (Ym cy ad G A 3 Q) (fun v => EndI X (Ym cy ad G A 3 Q) cX13_isStopAhead rm_X13_isStopAhead .boolean (σ, v)) 0 0 0 [(0, .ref (ad 0)), (1, vi x1), (2, vi x2)] [] σ (f_X13_isStopAhead N σ x1 x2)
  unfold f_X13_isStopAhead
  refine T_aload_n (pc := 0) C dX13_isStopAhead_0 rfl 0 rfl ?_
  refine T_iload_n (pc := 1) C dX13_isStopAhead_1 rfl 1 rfl ?_
  refine T_callVip (pc := 2) C [vi x1] [] (fun o h9 hw => ct_X13_ringsOf N σ x1 h1 hw o h9) kw_436 cm_X13_ringsOf rcm rfl rfl (Nat.le_of_ble_eq_true rfl) (by decide) (a' := 0) (b' := 0) ⟨rfl, rfl⟩ dX13_isStopAhead_2 (fun v1 hv1 => ?_)
  refine T_aload_n (pc := 5) C dX13_isStopAhead_5 rfl 0 rfl ?_
  refine T_iload_n (pc := 6) C dX13_isStopAhead_6 rfl 2 rfl ?_
  refine T_callVip (pc := 7) C [vi x2] [vi v1] (fun o h9 hw => ct_X13_ringsOf N σ x2 h2 hw o h9) kw_436 cm_X13_ringsOf rcm rfl rfl (Nat.le_of_ble_eq_true rfl) (by decide) (a' := 0) (b' := 0) ⟨rfl, rfl⟩ dX13_isStopAhead_7 (fun v2 hv2 => ?_)
  refine T_icmp_eq (pc := 10) C 32 dX13_isStopAhead_10 rfl hv1.1 hv2.1 (fun c3 => ?_) (fun c3 => ?_)
  · refine T_aload_n (pc := 32) C dX13_isStopAhead_32 rfl 0 rfl ?_
    refine T_iload_n (pc := 33) C dX13_isStopAhead_33 rfl 1 rfl ?_
    refine T_callVip (pc := 34) C [vi x1] [] (fun o h9 hw => ct_X13_walksOf N σ x1 h1 hw o h9) kw_437 cm_X13_walksOf rcm rfl rfl (Nat.le_of_ble_eq_true rfl) (by decide) (a' := 0) (b' := 0) ⟨rfl, rfl⟩ dX13_isStopAhead_34 (fun v4 hv4 => ?_)
    refine T_aload_n (pc := 37) C dX13_isStopAhead_37 rfl 0 rfl ?_
    refine T_iload_n (pc := 38) C dX13_isStopAhead_38 rfl 2 rfl ?_
    refine T_callVip (pc := 39) C [vi x2] [vi v4] (fun o h9 hw => ct_X13_walksOf N σ x2 h2 hw o h9) kw_437 cm_X13_walksOf rcm rfl rfl (Nat.le_of_ble_eq_true rfl) (by decide) (a' := 0) (b' := 0) ⟨rfl, rfl⟩ dX13_isStopAhead_39 (fun v5 hv5 => ?_)
    refine T_icmp_gt (pc := 42) C 63 dX13_isStopAhead_42 rfl hv4.1 hv5.1 (fun c6 => ?_) (fun c6 => ?_)
    · refine T_iconst (pc := 63) C dX13_isStopAhead_63 ?_
      refine T_goto (pc := 64) C 68 dX13_isStopAhead_64 rfl ?_
      exact T_iret (pc := 68) 1 (fun h9 => h9) (rngL rfl) (nar_Z (Or.inr rfl)) (by decide) dX13_isStopAhead_68
    · refine T_aload_n (pc := 45) C dX13_isStopAhead_45 rfl 0 rfl ?_
      refine T_iload_n (pc := 46) C dX13_isStopAhead_46 rfl 1 rfl ?_
      refine T_callVip (pc := 47) C [vi x1] [] (fun o h9 hw => ct_X13_walksOf N σ x1 h1 hw o h9) kw_437 cm_X13_walksOf rcm rfl rfl (Nat.le_of_ble_eq_true rfl) (by decide) (a' := 0) (b' := 0) ⟨rfl, rfl⟩ dX13_isStopAhead_47 (fun v7 hv7 => ?_)
      refine T_aload_n (pc := 50) C dX13_isStopAhead_50 rfl 0 rfl ?_
      refine T_iload_n (pc := 51) C dX13_isStopAhead_51 rfl 2 rfl ?_
      refine T_callVip (pc := 52) C [vi x2] [vi v7] (fun o h9 hw => ct_X13_walksOf N σ x2 h2 hw o h9) kw_437 cm_X13_walksOf rcm rfl rfl (Nat.le_of_ble_eq_true rfl) (by decide) (a' := 0) (b' := 0) ⟨rfl, rfl⟩ dX13_isStopAhead_52 (fun v8 hv8 => ?_)
      refine T_icmp_ne (pc := 55) C 67 dX13_isStopAhead_55 rfl hv7.1 hv8.1 (fun c9 => ?_) (fun c9 => ?_)
      · refine T_iconst (pc := 67) C dX13_isStopAhead_67 ?_
        exact T_iret (pc := 68) 0 (fun h9 => h9) (rngL rfl) (nar_Z (Or.inl rfl)) (by decide) dX13_isStopAhead_68
      · refine T_iload_n (pc := 58) C dX13_isStopAhead_58 rfl 1 rfl ?_
        refine T_iload_n (pc := 59) C dX13_isStopAhead_59 rfl 2 rfl ?_
        refine T_icmp_ge (pc := 60) C 67 dX13_isStopAhead_60 rfl h1 h2 (fun c10 => ?_) (fun c10 => ?_)
        · refine T_iconst (pc := 67) C dX13_isStopAhead_67 ?_
          exact T_iret (pc := 68) 0 (fun h9 => h9) (rngL rfl) (nar_Z (Or.inl rfl)) (by decide) dX13_isStopAhead_68
        · refine T_iconst (pc := 63) C dX13_isStopAhead_63 ?_
          refine T_goto (pc := 64) C 68 dX13_isStopAhead_64 rfl ?_
          exact T_iret (pc := 68) 1 (fun h9 => h9) (rngL rfl) (nar_Z (Or.inr rfl)) (by decide) dX13_isStopAhead_68
  · refine T_aload_n (pc := 13) C dX13_isStopAhead_13 rfl 0 rfl ?_
    refine T_iload_n (pc := 14) C dX13_isStopAhead_14 rfl 1 rfl ?_
    refine T_callVip (pc := 15) C [vi x1] [] (fun o h9 hw => ct_X13_ringsOf N σ x1 h1 hw o h9) kw_436 cm_X13_ringsOf rcm rfl rfl (Nat.le_of_ble_eq_true rfl) (by decide) (a' := 0) (b' := 0) ⟨rfl, rfl⟩ dX13_isStopAhead_15 (fun v11 hv11 => ?_)
    refine T_aload_n (pc := 18) C dX13_isStopAhead_18 rfl 0 rfl ?_
    refine T_iload_n (pc := 19) C dX13_isStopAhead_19 rfl 2 rfl ?_
    refine T_callVip (pc := 20) C [vi x2] [vi v11] (fun o h9 hw => ct_X13_ringsOf N σ x2 h2 hw o h9) kw_436 cm_X13_ringsOf rcm rfl rfl (Nat.le_of_ble_eq_true rfl) (by decide) (a' := 0) (b' := 0) ⟨rfl, rfl⟩ dX13_isStopAhead_20 (fun v12 hv12 => ?_)
    refine T_icmp_le (pc := 23) C 30 dX13_isStopAhead_23 rfl hv11.1 hv12.1 (fun c13 => ?_) (fun c13 => ?_)
    · refine T_iconst (pc := 30) C dX13_isStopAhead_30 ?_
      exact T_iret (pc := 31) 0 (fun h9 => h9) (rngL rfl) (nar_Z (Or.inl rfl)) (by decide) dX13_isStopAhead_31
    · refine T_iconst (pc := 26) C dX13_isStopAhead_26 ?_
      refine T_goto (pc := 27) C 31 dX13_isStopAhead_27 rfl ?_
      exact T_iret (pc := 31) 1 (fun h9 => h9) (rngL rfl) (nar_Z (Or.inr rfl)) (by decide) dX13_isStopAhead_31

abbrev rm_X13_ranked : Room := ⟨4, 0, 0, 90⟩
theorem cm_X13_ranked : cmV yX13_ranked cX13_ranked 7 (some .int) 3 := ⟨kw_113, kw_145, ⟨by decide +kernel, by decide +kernel, by decide +kernel⟩, kw_442, kw_443⟩
def f_X13_ranked_20 (N : Nat) (σ : Sm) (x1 : Int) (x2 : Int) (x3 : Int) (x4 : Int) : Nat → Int → Int → Option (Int)
  | 0, _, _ => none
  | n + 1, x5, x6 => (if x2 ≤ x6 then some x5 else (if x6 = x4 then bl (x5 + 0) fun v41 => if rng v41 then f_X13_ranked_20 N σ x1 x2 x3 x4 n v41 (x6 + 1) else none else (if x3 = 0 then (f_X13_isStopAhead N σ x6 x4).bind fun v44 => (if v44 = 0 then bl (x5 + 0) fun v46 => if rng v46 then f_X13_ranked_20 N σ x1 x2 x3 x4 n v46 (x6 + 1) else none else bl (x5 + 1) fun v48 => if rng v48 then f_X13_ranked_20 N σ x1 x2 x3 x4 n v48 (x6 + 1) else none) else (f_X13_isLineAhead N σ x6 x4).bind fun v50 => (if v50 = 0 then bl (x5 + 0) fun v52 => if rng v52 then f_X13_ranked_20 N σ x1 x2 x3 x4 n v52 (x6 + 1) else none else bl (x5 + 1) fun v54 => if rng v54 then f_X13_ranked_20 N σ x1 x2 x3 x4 n v54 (x6 + 1) else none))))
theorem lp_X13_ranked_20 {X : vjX} {A : Nat → Prop} {Q : State → Prop} {cy : ClassId} {ad : Nat → Nat} {G : va_G} (C : Cx X (Ym cy ad G A 7 Q) cX13_ranked RX13 (some .int) rm_X13_ranked (tym cy)) (N : Nat) (σ : Sm) (x1 : Int) (x2 : Int) (x3 : Int) (x4 : Int) (h1 : rng x1) (h2 : rng x2) (h3 : bit x3) (h4 : rng x4) : ∀ (n : Nat) (x5 : Int) (x6 : Int) (h5 : rng x5) (h6 : rng x6), T X (Ym cy ad G A 7 Q) (fun (q : Int) => rng q → J X (Ym cy ad G A 7 Q) 0 0 78 [(0, .ref (ad 0)), (1, vi x1), (2, vi x2), (3, vi x3), (4, vi x4), (5, vi q)] [] σ) 0 0 20 [(0, .ref (ad 0)), (1, vi x1), (2, vi x2), (3, vi x3), (4, vi x4), (5, vi x5), (6, vi x6)] [] σ (f_X13_ranked_20 N σ x1 x2 x3 x4 n x5 x6) := by
  intro n
  induction n with
  | zero => intro x5 x6 h5 h6; exact T_none
  | succ n ih =>
    intro x5 x6 h5 h6
    rw [f_X13_ranked_20]
    refine T_iload (pc := 20) C dX13_ranked_20 6 rfl ?_
    refine T_iload_n (pc := 22) C dX13_ranked_22 rfl 2 rfl ?_
    refine T_icmp_ge (pc := 23) C 78 dX13_ranked_23 rfl h6 h2 (fun c39 => ?_) (fun c39 => ?_)
    · refine T_sub (L' := [(0, .ref (ad 0)), (1, vi x1), (2, vi x2), (3, vi x3), (4, vi x4), (5, vi x5)]) [0, 1, 2, 3, 4, 5] rfl ?_
      exact T_exit (fun h9 => h9 h5)
    · refine T_iload (pc := 26) C dX13_ranked_26 5 rfl ?_
      refine T_iload (pc := 28) C dX13_ranked_28 6 rfl ?_
      refine T_iload (pc := 30) C dX13_ranked_30 4 rfl ?_
      refine T_icmp_eq (pc := 32) C 68 dX13_ranked_32 rfl h6 h4 (fun c40 => ?_) (fun c40 => ?_)
      · refine T_iconst (pc := 68) C dX13_ranked_68 ?_
        refine T_iadd (pc := 69) C dX13_ranked_69 ?_
        refine T_blN (fun v41 => ?_)
        refine T_istore (pc := 70) (L' := [(5, vi v41), (0, .ref (ad 0)), (1, vi x1), (2, vi x2), (3, vi x3), (4, vi x4), (6, vi x6)]) C dX13_ranked_70 (Nat.le_of_ble_eq_true rfl) rfl ?_
        refine T_iinc (pc := 72) (L' := [(6, vi (x6 + 1)), (5, vi v41), (0, .ref (ad 0)), (1, vi x1), (2, vi x2), (3, vi x3), (4, vi x4)]) C dX13_ranked_72 (Nat.le_of_ble_eq_true rfl) 6 rfl rfl ?_
        refine T_goto (pc := 75) C 20 dX13_ranked_75 rfl ?_
        refine T_sub (L' := [(0, .ref (ad 0)), (1, vi x1), (2, vi x2), (3, vi x3), (4, vi x4), (5, vi v41), (6, vi (x6 + 1))]) [2, 3, 4, 5, 6, 1, 0] rfl ?_
        refine T_guard (fun g42 => ?_)
        exact ih v41 (x6 + 1) g42 (rng_inc c39 h6 h2)
      · refine T_iload_n (pc := 35) C dX13_ranked_35 rfl 3 rfl ?_
        refine T_if_eq (pc := 36) C 53 dX13_ranked_36 rfl (bit_rng h3) (fun c43 => ?_) (fun c43 => ?_)
        · refine T_aload_n (pc := 53) C dX13_ranked_53 rfl 0 rfl ?_
          refine T_iload (pc := 54) C dX13_ranked_54 6 rfl ?_
          refine T_iload (pc := 56) C dX13_ranked_56 4 rfl ?_
          refine T_callVip (pc := 58) C [vi x6, vi x4] [vi x5] (fun o h9 hw => ct_X13_isStopAhead N σ x6 x4 h6 h4 hw o h9) kw_440 cm_X13_isStopAhead rcm rfl rfl (Nat.le_of_ble_eq_true rfl) (by decide) (a' := 0) (b' := 0) ⟨rfl, rfl⟩ dX13_ranked_58 (fun v44 hv44 => ?_)
          refine T_if_eq (pc := 61) C 68 dX13_ranked_61 rfl hv44.1 (fun c45 => ?_) (fun c45 => ?_)
          · refine T_iconst (pc := 68) C dX13_ranked_68 ?_
            refine T_iadd (pc := 69) C dX13_ranked_69 ?_
            refine T_blN (fun v46 => ?_)
            refine T_istore (pc := 70) (L' := [(5, vi v46), (0, .ref (ad 0)), (1, vi x1), (2, vi x2), (3, vi x3), (4, vi x4), (6, vi x6)]) C dX13_ranked_70 (Nat.le_of_ble_eq_true rfl) rfl ?_
            refine T_iinc (pc := 72) (L' := [(6, vi (x6 + 1)), (5, vi v46), (0, .ref (ad 0)), (1, vi x1), (2, vi x2), (3, vi x3), (4, vi x4)]) C dX13_ranked_72 (Nat.le_of_ble_eq_true rfl) 6 rfl rfl ?_
            refine T_goto (pc := 75) C 20 dX13_ranked_75 rfl ?_
            refine T_sub (L' := [(0, .ref (ad 0)), (1, vi x1), (2, vi x2), (3, vi x3), (4, vi x4), (5, vi v46), (6, vi (x6 + 1))]) [2, 3, 4, 5, 6, 1, 0] rfl ?_
            refine T_guard (fun g47 => ?_)
            exact ih v46 (x6 + 1) g47 (rng_inc c39 h6 h2)
          · refine T_iconst (pc := 64) C dX13_ranked_64 ?_
            refine T_goto (pc := 65) C 69 dX13_ranked_65 rfl ?_
            refine T_iadd (pc := 69) C dX13_ranked_69 ?_
            refine T_blN (fun v48 => ?_)
            refine T_istore (pc := 70) (L' := [(5, vi v48), (0, .ref (ad 0)), (1, vi x1), (2, vi x2), (3, vi x3), (4, vi x4), (6, vi x6)]) C dX13_ranked_70 (Nat.le_of_ble_eq_true rfl) rfl ?_
            refine T_iinc (pc := 72) (L' := [(6, vi (x6 + 1)), (5, vi v48), (0, .ref (ad 0)), (1, vi x1), (2, vi x2), (3, vi x3), (4, vi x4)]) C dX13_ranked_72 (Nat.le_of_ble_eq_true rfl) 6 rfl rfl ?_
            refine T_goto (pc := 75) C 20 dX13_ranked_75 rfl ?_
            refine T_sub (L' := [(0, .ref (ad 0)), (1, vi x1), (2, vi x2), (3, vi x3), (4, vi x4), (5, vi v48), (6, vi (x6 + 1))]) [2, 3, 4, 5, 6, 1, 0] rfl ?_
            refine T_guard (fun g49 => ?_)
            exact ih v48 (x6 + 1) g49 (rng_inc c39 h6 h2)
        · refine T_aload_n (pc := 39) C dX13_ranked_39 rfl 0 rfl ?_
          refine T_iload (pc := 40) C dX13_ranked_40 6 rfl ?_
          refine T_iload (pc := 42) C dX13_ranked_42 4 rfl ?_
          refine T_callVip (pc := 44) C [vi x6, vi x4] [vi x5] (fun o h9 hw => ct_X13_isLineAhead N σ x6 x4 h6 h4 hw o h9) kw_441 cm_X13_isLineAhead rcm rfl rfl (Nat.le_of_ble_eq_true rfl) (by decide) (a' := 0) (b' := 0) ⟨rfl, rfl⟩ dX13_ranked_44 (fun v50 hv50 => ?_)
          refine T_if_eq (pc := 47) C 68 dX13_ranked_47 rfl hv50.1 (fun c51 => ?_) (fun c51 => ?_)
          · refine T_iconst (pc := 68) C dX13_ranked_68 ?_
            refine T_iadd (pc := 69) C dX13_ranked_69 ?_
            refine T_blN (fun v52 => ?_)
            refine T_istore (pc := 70) (L' := [(5, vi v52), (0, .ref (ad 0)), (1, vi x1), (2, vi x2), (3, vi x3), (4, vi x4), (6, vi x6)]) C dX13_ranked_70 (Nat.le_of_ble_eq_true rfl) rfl ?_
            refine T_iinc (pc := 72) (L' := [(6, vi (x6 + 1)), (5, vi v52), (0, .ref (ad 0)), (1, vi x1), (2, vi x2), (3, vi x3), (4, vi x4)]) C dX13_ranked_72 (Nat.le_of_ble_eq_true rfl) 6 rfl rfl ?_
            refine T_goto (pc := 75) C 20 dX13_ranked_75 rfl ?_
            refine T_sub (L' := [(0, .ref (ad 0)), (1, vi x1), (2, vi x2), (3, vi x3), (4, vi x4), (5, vi v52), (6, vi (x6 + 1))]) [2, 3, 4, 5, 6, 1, 0] rfl ?_
            refine T_guard (fun g53 => ?_)
            exact ih v52 (x6 + 1) g53 (rng_inc c39 h6 h2)
          · refine T_goto (pc := 50) C 64 dX13_ranked_50 rfl ?_
            refine T_iconst (pc := 64) C dX13_ranked_64 ?_
            refine T_goto (pc := 65) C 69 dX13_ranked_65 rfl ?_
            refine T_iadd (pc := 69) C dX13_ranked_69 ?_
            refine T_blN (fun v54 => ?_)
            refine T_istore (pc := 70) (L' := [(5, vi v54), (0, .ref (ad 0)), (1, vi x1), (2, vi x2), (3, vi x3), (4, vi x4), (6, vi x6)]) C dX13_ranked_70 (Nat.le_of_ble_eq_true rfl) rfl ?_
            refine T_iinc (pc := 72) (L' := [(6, vi (x6 + 1)), (5, vi v54), (0, .ref (ad 0)), (1, vi x1), (2, vi x2), (3, vi x3), (4, vi x4)]) C dX13_ranked_72 (Nat.le_of_ble_eq_true rfl) 6 rfl rfl ?_
            refine T_goto (pc := 75) C 20 dX13_ranked_75 rfl ?_
            refine T_sub (L' := [(0, .ref (ad 0)), (1, vi x1), (2, vi x2), (3, vi x3), (4, vi x4), (5, vi v54), (6, vi (x6 + 1))]) [2, 3, 4, 5, 6, 1, 0] rfl ?_
            refine T_guard (fun g55 => ?_)
            exact ih v54 (x6 + 1) g55 (rng_inc c39 h6 h2)
def f_X13_ranked_8 (N : Nat) (σ : Sm) (x1 : Int) (x2 : Int) (x3 : Int) : Nat → Int → Option ((Sm × Int) ⊕ Unit)
  | 0, _ => none
  | n + 1, x4 => (if x2 ≤ x4 then some (.inr ()) else (f_X13_ranked_20 N σ x1 x2 x3 x4 N 0 0).bind fun q56 => (if q56 = x1 then some (.inl (σ, x4)) else f_X13_ranked_8 N σ x1 x2 x3 n (x4 + 1)))
theorem lp_X13_ranked_8 {X : vjX} {A : Nat → Prop} {Q : State → Prop} {cy : ClassId} {ad : Nat → Nat} {G : va_G} (C : Cx X (Ym cy ad G A 7 Q) cX13_ranked RX13 (some .int) rm_X13_ranked (tym cy)) (N : Nat) (σ : Sm) (x1 : Int) (x2 : Int) (x3 : Int) (h1 : rng x1) (h2 : rng x2) (h3 : bit x3) : ∀ (n : Nat) (x4 : Int) (h4 : rng x4), T X (Ym cy ad G A 7 Q) (Sum.elim (fun w => EndI X (Ym cy ad G A 7 Q) cX13_ranked rm_X13_ranked .int w) (fun (q : Unit) => True → J X (Ym cy ad G A 7 Q) 0 0 93 [(0, .ref (ad 0))] [] σ)) 0 0 8 [(0, .ref (ad 0)), (1, vi x1), (2, vi x2), (3, vi x3), (4, vi x4)] [] σ (f_X13_ranked_8 N σ x1 x2 x3 n x4) := by
  intro n
  induction n with
  | zero => intro x4 h4; exact T_none
  | succ n ih =>
    intro x4 h4
    rw [f_X13_ranked_8]
    refine T_iload (pc := 8) C dX13_ranked_8 4 rfl ?_
    refine T_iload_n (pc := 10) C dX13_ranked_10 rfl 2 rfl ?_
    refine T_icmp_ge (pc := 11) C 93 dX13_ranked_11 rfl h4 h2 (fun c30 => ?_) (fun c30 => ?_)
    · refine T_sub (L' := [(0, .ref (ad 0))]) [0] rfl ?_
      exact T_exit (fun h9 => h9 trivial)
    · refine T_iconst (pc := 14) C dX13_ranked_14 ?_
      refine T_istore (pc := 15) (L' := [(5, vi 0), (0, .ref (ad 0)), (1, vi x1), (2, vi x2), (3, vi x3), (4, vi x4)]) C dX13_ranked_15 (Nat.le_of_ble_eq_true rfl) rfl ?_
      refine T_iconst (pc := 17) C dX13_ranked_17 ?_
      refine T_istore (pc := 18) (L' := [(6, vi 0), (5, vi 0), (0, .ref (ad 0)), (1, vi x1), (2, vi x2), (3, vi x3), (4, vi x4)]) C dX13_ranked_18 (Nat.le_of_ble_eq_true rfl) rfl ?_
      refine T_sub (L' := [(0, .ref (ad 0)), (1, vi x1), (2, vi x2), (3, vi x3), (4, vi x4), (5, vi 0), (6, vi 0)]) [2, 3, 4, 5, 6, 1, 0] rfl ?_
      refine T_loopE (lp_X13_ranked_20 C N σ x1 x2 x3 x4 h1 h2 h3 h4 N 0 0 (rngL rfl) (rngL rfl)) (fun q56 hq56 => ?_)
      refine T_iload (pc := 78) C dX13_ranked_78 5 rfl ?_
      refine T_iload_n (pc := 80) C dX13_ranked_80 rfl 1 rfl ?_
      refine T_icmp_ne (pc := 81) C 87 dX13_ranked_81 rfl hq56 h1 (fun c57 => ?_) (fun c57 => ?_)
      · refine T_iinc (pc := 87) (L' := [(4, vi (x4 + 1)), (0, .ref (ad 0)), (1, vi x1), (2, vi x2), (3, vi x3), (5, vi q56)]) C dX13_ranked_87 (Nat.le_of_ble_eq_true rfl) 4 rfl rfl ?_
        refine T_goto (pc := 90) C 8 dX13_ranked_90 rfl ?_
        refine T_sub (L' := [(0, .ref (ad 0)), (1, vi x1), (2, vi x2), (3, vi x3), (4, vi (x4 + 1))]) [1, 2, 3, 4, 0] rfl ?_
        exact ih (x4 + 1) (rng_inc c30 h4 h2)
      · refine T_iload (pc := 84) C dX13_ranked_84 4 rfl ?_
        exact T_iret (pc := 86) (Sum.inl (σ, x4)) (fun h9 => h9) h4 (nar_I _) (by decide) dX13_ranked_86
def f_X13_ranked (N : Nat) (σ : Sm) (x1 : Int) (x2 : Int) (x3 : Int) : Option (Sm × Int) :=
  bl (upm σ 11 0 0) fun s1 => (f_X13_ranked_8 N s1 x1 x2 x3 N 0).bind (Sum.elim (fun v => some v) fun q58 => (f_X13_fail s1 1).bind fun v59 => some (v59.1, v59.2))
theorem ct_X13_ranked {l : Launch} {cy : ClassId} {ad : Nat → Nat} {G : va_G} (N : Nat) (σ : Sm) (x1 : Int) (x2 : Int) (x3 : Int) (h1 : rng x1) (h2 : rng x2) (h3 : bit x3) (hw : wfm σ) (o : Sm × Int) (h : f_X13_ranked N σ x1 x2 x3 = some o) : CtI l yX13_ranked cX13_ranked 7 (some .int) rm_X13_ranked (wlm cy ad) wfm G (tym cy) [.ref (ad 0), vi x1, vi x2, vi x3] σ o.1 o.2 := by
  refine ctI_of (by decide) (Nat.le_of_ble_eq_true rfl) hw o o h (fun X Y w => EndI X Y cX13_ranked rm_X13_ranked .int w) (fun _ _ h => h) (fun X A Q hX C => ?_)
  replace C : Cx X (Ym cy ad G A 7 Q) cX13_ranked RX13 (some .int) rm_X13_ranked (tym cy) := C
  show T X (Ym cy ad G A 7 Q) (fun w => EndI X (Ym cy ad G A 7 Q) cX13_ranked rm_X13_ranked .int w) 0 0 0 [(0, .ref (ad 0)), (1, vi x1), (2, vi x2), (3, vi x3)] [] σ (f_X13_ranked N σ x1 x2 x3)
  unfold f_X13_ranked
  refine T_aload_n (pc := 0) C dX13_ranked_0 rfl 0 rfl ?_
  refine T_iconst (pc := 1) C dX13_ranked_1 ?_
  refine Tm_put (pc := 2) C (ty := .int) 11 ⟨by decide, by decide⟩ (rngL rfl) kw_144 rfl (nar_I _) (fit_I _) dX13_ranked_2 ?_
  refine T_blS (fun s1 => ?_)
  refine T_iconst (pc := 5) C dX13_ranked_5 ?_
  refine T_istore (pc := 6) (L' := [(4, vi 0), (0, .ref (ad 0)), (1, vi x1), (2, vi x2), (3, vi x3)]) C dX13_ranked_6 (Nat.le_of_ble_eq_true rfl) rfl ?_
  refine T_sub (L' := [(0, .ref (ad 0)), (1, vi x1), (2, vi x2), (3, vi x3), (4, vi 0)]) [1, 2, 3, 4, 0] rfl ?_
  refine T_loopS (g := fun v => v) (lp_X13_ranked_8 C N s1 x1 x2 x3 h1 h2 h3 N 0 (rngL rfl)) (fun v h9 => h9) (fun q58 hq58 => ?_)
  refine T_aload_n (pc := 93) C dX13_ranked_93 rfl 0 rfl ?_
  refine T_iconst (pc := 94) C dX13_ranked_94 ?_
  refine T_callVi (pc := 95) C [vi 1] [] (fun o h9 hw => ct_X13_fail s1 1 (rngL rfl) hw o h9) kw_181 cm_X13_fail rcm rfl rfl (Nat.le_of_ble_eq_true rfl) (by decide) (a' := 0) (b' := 0) ⟨rfl, rfl⟩ dX13_ranked_95 (fun v59 hv59 => ?_)
  exact T_iret (pc := 98) (v59.1, v59.2) (fun h9 => h9) hv59.1 (nar_I _) (by decide) dX13_ranked_98

abbrev rm_X13_lineByTickets : Room := ⟨5, 0, 0, 116⟩
theorem cm_X13_lineByTickets : cmV yX13_lineByTickets cX13_lineByTickets 2 (some .int) 1 := ⟨kw_114, kw_145, ⟨by decide +kernel, by decide +kernel, by decide +kernel⟩, kw_445, kw_446⟩
def f_X13_lineByTickets (N : Nat) (σ : Sm) (x1 : Int) : Option (Sm × Int) :=
  (f_X13_ranked N σ x1 (σ 1 2) 1).bind fun v2 => some (v2.1, v2.2)
theorem ct_X13_lineByTickets {l : Launch} {cy : ClassId} {ad : Nat → Nat} {G : va_G} (N : Nat) (σ : Sm) (x1 : Int) (h1 : rng x1) (hw : wfm σ) (o : Sm × Int) (h : f_X13_lineByTickets N σ x1 = some o) : CtI l yX13_lineByTickets cX13_lineByTickets 2 (some .int) rm_X13_lineByTickets (wlm cy ad) wfm G (tym cy) [.ref (ad 0), vi x1] σ o.1 o.2 := by
  refine ctI_of (by decide) (Nat.le_of_ble_eq_true rfl) hw o o h (fun X Y w => EndI X Y cX13_lineByTickets rm_X13_lineByTickets .int w) (fun _ _ h => h) (fun X A Q hX C => ?_)
  replace C : Cx X (Ym cy ad G A 2 Q) cX13_lineByTickets RX13 (some .int) rm_X13_lineByTickets (tym cy) := C
  show T X (Ym cy ad G A 2 Q) (fun w => EndI X (Ym cy ad G A 2 Q) cX13_lineByTickets rm_X13_lineByTickets .int w) 0 0 0 [(0, .ref (ad 0)), (1, vi x1)] [] σ (f_X13_lineByTickets N σ x1)
  unfold f_X13_lineByTickets
  refine T_aload_n (pc := 0) C dX13_lineByTickets_0 rfl 0 rfl ?_
  refine T_iload_n (pc := 1) C dX13_lineByTickets_1 rfl 1 rfl ?_
  refine T_aload_n (pc := 2) C dX13_lineByTickets_2 rfl 0 rfl ?_
  refine Tm_getA (pc := 3) C 0 1 (by decide) (fun _ => rfl) kw_152 rfl dX13_lineByTickets_3 ?_
  refine T_iconst (pc := 6) C dX13_lineByTickets_6 ?_
  refine Tm_iald (pc := 7) C 1 2 ⟨by decide, by decide⟩ ⟨by decide, by decide⟩ rfl dX13_lineByTickets_7 (fun r1 => ?_)
  refine T_iconst (pc := 8) C dX13_lineByTickets_8 ?_
  refine T_callVi (pc := 9) C [vi x1, vi (σ 1 2), vi 1] [] (fun o h9 hw => ct_X13_ranked N σ x1 (σ 1 2) 1 h1 r1 (Or.inr rfl) hw o h9) kw_444 cm_X13_ranked rcm rfl rfl (Nat.le_of_ble_eq_true rfl) (by decide) (a' := 0) (b' := 0) ⟨rfl, rfl⟩ dX13_lineByTickets_9 (fun v2 hv2 => ?_)
  exact T_iret (pc := 12) (v2.1, v2.2) (fun h9 => h9) hv2.1 (nar_I _) (by decide) dX13_lineByTickets_12

abbrev rm_X13_stopByLines : Room := ⟨5, 0, 0, 116⟩
theorem cm_X13_stopByLines : cmV yX13_stopByLines cX13_stopByLines 2 (some .int) 1 := ⟨kw_115, kw_145, ⟨by decide +kernel, by decide +kernel, by decide +kernel⟩, kw_447, kw_448⟩
def f_X13_stopByLines (N : Nat) (σ : Sm) (x1 : Int) : Option (Sm × Int) :=
  (f_X13_ranked N σ x1 (σ 1 0) 0).bind fun v2 => some (v2.1, v2.2)
theorem ct_X13_stopByLines {l : Launch} {cy : ClassId} {ad : Nat → Nat} {G : va_G} (N : Nat) (σ : Sm) (x1 : Int) (h1 : rng x1) (hw : wfm σ) (o : Sm × Int) (h : f_X13_stopByLines N σ x1 = some o) : CtI l yX13_stopByLines cX13_stopByLines 2 (some .int) rm_X13_stopByLines (wlm cy ad) wfm G (tym cy) [.ref (ad 0), vi x1] σ o.1 o.2 := by
  refine ctI_of (by decide) (Nat.le_of_ble_eq_true rfl) hw o o h (fun X Y w => EndI X Y cX13_stopByLines rm_X13_stopByLines .int w) (fun _ _ h => h) (fun X A Q hX C => ?_)
  replace C : Cx X (Ym cy ad G A 2 Q) cX13_stopByLines RX13 (some .int) rm_X13_stopByLines (tym cy) := C
  show T X (Ym cy ad G A 2 Q) (fun w => EndI X (Ym cy ad G A 2 Q) cX13_stopByLines rm_X13_stopByLines .int w) 0 0 0 [(0, .ref (ad 0)), (1, vi x1)] [] σ (f_X13_stopByLines N σ x1)
  unfold f_X13_stopByLines
  refine T_aload_n (pc := 0) C dX13_stopByLines_0 rfl 0 rfl ?_
  refine T_iload_n (pc := 1) C dX13_stopByLines_1 rfl 1 rfl ?_
  refine T_aload_n (pc := 2) C dX13_stopByLines_2 rfl 0 rfl ?_
  refine Tm_getA (pc := 3) C 0 1 (by decide) (fun _ => rfl) kw_152 rfl dX13_stopByLines_3 ?_
  refine T_iconst (pc := 6) C dX13_stopByLines_6 ?_
  refine Tm_iald (pc := 7) C 1 0 ⟨by decide, by decide⟩ ⟨by decide, by decide⟩ rfl dX13_stopByLines_7 (fun r1 => ?_)
  refine T_iconst (pc := 8) C dX13_stopByLines_8 ?_
  refine T_callVi (pc := 9) C [vi x1, vi (σ 1 0), vi 0] [] (fun o h9 hw => ct_X13_ranked N σ x1 (σ 1 0) 0 h1 r1 (Or.inl rfl) hw o h9) kw_444 cm_X13_ranked rcm rfl rfl (Nat.le_of_ble_eq_true rfl) (by decide) (a' := 0) (b' := 0) ⟨rfl, rfl⟩ dX13_stopByLines_9 (fun v2 hv2 => ?_)
  exact T_iret (pc := 12) (v2.1, v2.2) (fun h9 => h9) hv2.1 (nar_I _) (by decide) dX13_stopByLines_12

abbrev rm_X13_isConsistent : Room := ⟨1, 0, 0, 21⟩
theorem cm_X13_isConsistent : cmV yX13_isConsistent cX13_isConsistent 1 (some .boolean) 0 := ⟨kw_116, kw_145, ⟨by decide +kernel, by decide +kernel, by decide +kernel⟩, kw_449, kw_450⟩
def f_X13_isConsistent (σ : Sm) : Option (Sm × Int) :=
  (f_X13_plain σ 1).bind fun v1 => (if v1.2 = 1 then some (v1.1, 1) else some (v1.1, 0))
theorem ct_X13_isConsistent {l : Launch} {cy : ClassId} {ad : Nat → Nat} {G : va_G} (σ : Sm) (hw : wfm σ) (o : Sm × Int) (h : f_X13_isConsistent σ = some o) : CtI l yX13_isConsistent cX13_isConsistent 1 (some .boolean) rm_X13_isConsistent (wlm cy ad) wfm G (tym cy) [.ref (ad 0)] σ o.1 o.2 := by
  refine ctI_of (by decide) (Nat.le_of_ble_eq_true rfl) hw o o h (fun X Y w => EndI X Y cX13_isConsistent rm_X13_isConsistent .boolean w) (fun _ _ h => h) (fun X A Q hX C => ?_)
  replace C : Cx X (Ym cy ad G A 1 Q) cX13_isConsistent RX13 (some .boolean) rm_X13_isConsistent (tym cy) := C
  show T X (Ym cy ad G A 1 Q) (fun w => EndI X (Ym cy ad G A 1 Q) cX13_isConsistent rm_X13_isConsistent .boolean w) 0 0 0 [(0, .ref (ad 0))] [] σ (f_X13_isConsistent σ)
  unfold f_X13_isConsistent
  refine T_aload_n (pc := 0) C dX13_isConsistent_0 rfl 0 rfl ?_
  refine T_iconst (pc := 1) C dX13_isConsistent_1 ?_
  refine T_callVi (pc := 2) C [vi 1] [] (fun o h9 hw => ct_X13_plain σ 1 (rngL rfl) hw o h9) kw_314 cm_X13_plain rcm rfl rfl (Nat.le_of_ble_eq_true rfl) (by decide) (a' := 0) (b' := 0) ⟨rfl, rfl⟩ dX13_isConsistent_2 (fun v1 hv1 => ?_)
  refine T_iconst (pc := 5) C dX13_isConsistent_5 ?_
  refine T_icmp_ne (pc := 6) C 13 dX13_isConsistent_6 rfl hv1.1 (rngL rfl) (fun c2 => ?_) (fun c2 => ?_)
  · refine T_iconst (pc := 13) C dX13_isConsistent_13 ?_
    exact T_iret (pc := 14) (v1.1, 0) (fun h9 => h9) (rngL rfl) (nar_Z (Or.inl rfl)) (by decide) dX13_isConsistent_14
  · refine T_iconst (pc := 9) C dX13_isConsistent_9 ?_
    refine T_goto (pc := 10) C 14 dX13_isConsistent_10 rfl ?_
    exact T_iret (pc := 14) (v1.1, 1) (fun h9 => h9) (rngL rfl) (nar_Z (Or.inr rfl)) (by decide) dX13_isConsistent_14

abbrev rm_X13_write : Room := ⟨0, 0, 0, 0⟩
theorem cm_X13_write : cmV yX13_write cX13_write 2 none 1 := ⟨kw_117, kw_145, ⟨by decide +kernel, by decide +kernel, by decide +kernel⟩, kw_453, kw_454⟩
def f_X13_write (σ : Sm) (x1 : Int) : Option Sm :=
  if 0 ≤ (σ 16 0) ∧ (σ 16 0) < 80 then bl (upm σ 7 (σ 16 0).toNat x1) fun s3 => if rng ((s3 16 0) + 1) then bl (upm s3 16 0 ((s3 16 0) + 1)) fun s6 => some s6 else none else none
theorem ct_X13_write {l : Launch} {cy : ClassId} {ad : Nat → Nat} {G : va_G} (σ : Sm) (x1 : Int) (h1 : rng x1) (hw : wfm σ) (o : Sm) (h : f_X13_write σ x1 = some o) : CtV l yX13_write cX13_write 2 rm_X13_write (wlm cy ad) wfm G (tym cy) [.ref (ad 0), vi x1] σ o := by
  refine ctV_of (by decide) (Nat.le_of_ble_eq_true rfl) hw o o h (fun X Y w => EndV X Y cX13_write rm_X13_write w) (fun _ _ h => h) (fun X A Q hX C => ?_)
  replace C : Cx X (Ym cy ad G A 2 Q) cX13_write RX13 none rm_X13_write (tym cy) := C
  show T X (Ym cy ad G A 2 Q) (fun w => EndV X (Ym cy ad G A 2 Q) cX13_write rm_X13_write w) 0 0 0 [(0, .ref (ad 0)), (1, vi x1)] [] σ (f_X13_write σ x1)
  unfold f_X13_write
  refine T_aload_n (pc := 0) C dX13_write_0 rfl 0 rfl ?_
  refine Tm_getA (pc := 1) C 11 7 (by decide) (fun _ => rfl) kw_451 rfl dX13_write_1 ?_
  refine T_aload_n (pc := 4) C dX13_write_4 rfl 0 rfl ?_
  refine Tm_get (pc := 5) C 16 ⟨by decide, by decide⟩ kw_452 dX13_write_5 (fun r1 => ?_)
  refine T_iload_n (pc := 8) C dX13_write_8 rfl 1 rfl ?_
  refine T_guard (fun g2 => ?_)
  refine Tm_iast (pc := 9) C 7 (σ 16 0).toNat ⟨by decide, by decide⟩ g2 rfl h1 dX13_write_9 ?_
  refine T_blS (fun s3 => ?_)
  refine T_aload_n (pc := 10) C dX13_write_10 rfl 0 rfl ?_
  refine T_dup (pc := 11) C dX13_write_11 rfl ?_
  refine Tm_get (pc := 12) C 16 ⟨by decide, by decide⟩ kw_452 dX13_write_12 (fun r4 => ?_)
  refine T_iconst (pc := 15) C dX13_write_15 ?_
  refine T_iadd (pc := 16) C dX13_write_16 ?_
  refine T_guard (fun g5 => ?_)
  refine Tm_put (pc := 17) C (ty := .int) 16 ⟨by decide, by decide⟩ g5 kw_452 rfl (nar_I _) (fit_I _) dX13_write_17 ?_
  refine T_blS (fun s6 => ?_)
  exact T_vret (pc := 20) s6 (fun h9 => h9) (by decide) dX13_write_20

abbrev rm_X13_writeNumber : Room := ⟨1, 0, 0, 21⟩
theorem cm_X13_writeNumber : cmV yX13_writeNumber cX13_writeNumber 3 none 1 := ⟨kw_118, kw_145, ⟨by decide +kernel, by decide +kernel, by decide +kernel⟩, kw_456, kw_457⟩
def f_X13_writeNumber_2 (σ : Sm) (x1 : Int) : Nat → Int → Option (Int)
  | 0, _ => none
  | n + 1, x2 => if 0 ≤ x1 ∧ 0 < x2 then (if (x1 / x2) ≤ 9 then some x2 else bl (x2 * 10) fun v8 => if rng v8 then f_X13_writeNumber_2 σ x1 n v8 else none) else none
theorem lp_X13_writeNumber_2 {X : vjX} {A : Nat → Prop} {Q : State → Prop} {cy : ClassId} {ad : Nat → Nat} {G : va_G} (C : Cx X (Ym cy ad G A 3 Q) cX13_writeNumber RX13 none rm_X13_writeNumber (tym cy)) (σ : Sm) (x1 : Int) (h1 : rng x1) : ∀ (n : Nat) (x2 : Int) (h2 : rng x2), T X (Ym cy ad G A 3 Q) (fun (q : Int) => rng q → J X (Ym cy ad G A 3 Q) 0 0 18 [(0, .ref (ad 0)), (1, vi x1), (2, vi q)] [] σ) 0 0 2 [(0, .ref (ad 0)), (1, vi x1), (2, vi x2)] [] σ (f_X13_writeNumber_2 σ x1 n x2) := by
  intro n
  induction n with
  | zero => intro x2 h2; exact T_none
  | succ n ih =>
    intro x2 h2
    rw [f_X13_writeNumber_2]
    refine T_iload_n (pc := 2) C dX13_writeNumber_2 rfl 1 rfl ?_
    refine T_iload_n (pc := 3) C dX13_writeNumber_3 rfl 2 rfl ?_
    refine T_guard (fun g6 => ?_)
    refine T_idiv (pc := 4) C dX13_writeNumber_4 h1 h2 g6 ?_
    refine T_bipush (pc := 5) C dX13_writeNumber_5 (by decide) ?_
    refine T_icmp_le (pc := 7) C 18 dX13_writeNumber_7 rfl (rng_dv h1 g6) (rngL rfl) (fun c7 => ?_) (fun c7 => ?_)
    · exact T_exit (fun h9 => h9 h2)
    · refine T_iload_n (pc := 10) C dX13_writeNumber_10 rfl 2 rfl ?_
      refine T_bipush (pc := 11) C dX13_writeNumber_11 (by decide) ?_
      refine T_imul (pc := 13) C dX13_writeNumber_13 ?_
      refine T_blN (fun v8 => ?_)
      refine T_istore_n (pc := 14) (L' := [(2, vi v8), (0, .ref (ad 0)), (1, vi x1)]) C dX13_writeNumber_14 rfl (Nat.le_of_ble_eq_true rfl) rfl ?_
      refine T_goto (pc := 15) C 2 dX13_writeNumber_15 rfl ?_
      refine T_sub (L' := [(0, .ref (ad 0)), (1, vi x1), (2, vi v8)]) [1, 2, 0] rfl ?_
      refine T_guard (fun g9 => ?_)
      exact ih v8 g9
def f_X13_writeNumber_18 (x1 : Int) : Nat → Sm → Int → Option (Sm)
  | 0, _, _ => none
  | n + 1, s0, x2 => (if x2 ≤ 0 then some s0 else if 0 ≤ x1 ∧ 0 < x2 then if 0 ≤ (x1 / x2) then if rng (48 + ((x1 / x2) % 10)) then (f_X13_write s0 (48 + ((x1 / x2) % 10))).bind fun s15 => if 0 ≤ x2 then bl (x2 / 10) fun v17 => f_X13_writeNumber_18 x1 n s15 v17 else none else none else none else none)
theorem lp_X13_writeNumber_18 {X : vjX} {A : Nat → Prop} {Q : State → Prop} {cy : ClassId} {ad : Nat → Nat} {G : va_G} (C : Cx X (Ym cy ad G A 3 Q) cX13_writeNumber RX13 none rm_X13_writeNumber (tym cy)) (x1 : Int) (h1 : rng x1) : ∀ (n : Nat) (s0 : Sm) (x2 : Int) (h2 : rng x2), T X (Ym cy ad G A 3 Q) (fun (q : Sm) => True → J X (Ym cy ad G A 3 Q) 0 0 43 [] [] q) 0 0 18 [(0, .ref (ad 0)), (1, vi x1), (2, vi x2)] [] s0 (f_X13_writeNumber_18 x1 n s0 x2) := by
  intro n
  induction n with
  | zero => intro s0 x2 h2; exact T_none
  | succ n ih =>
    intro s0 x2 h2
    rw [f_X13_writeNumber_18]
    refine T_iload_n (pc := 18) C dX13_writeNumber_18 rfl 2 rfl ?_
    refine T_if_le (pc := 19) C 43 dX13_writeNumber_19 rfl h2 (fun c11 => ?_) (fun c11 => ?_)
    · refine T_sub (L' := []) [] rfl ?_
      exact T_exit (fun h9 => h9 trivial)
    · refine T_aload_n (pc := 22) C dX13_writeNumber_22 rfl 0 rfl ?_
      refine T_bipush (pc := 23) C dX13_writeNumber_23 (by decide) ?_
      refine T_iload_n (pc := 25) C dX13_writeNumber_25 rfl 1 rfl ?_
      refine T_iload_n (pc := 26) C dX13_writeNumber_26 rfl 2 rfl ?_
      refine T_guard (fun g12 => ?_)
      refine T_idiv (pc := 27) C dX13_writeNumber_27 h1 h2 g12 ?_
      refine T_bipush (pc := 28) C dX13_writeNumber_28 (by decide) ?_
      refine T_guard (fun g13 => ?_)
      refine T_irem (pc := 30) C dX13_writeNumber_30 (rng_dv h1 g12) (rngL rfl) ⟨g13, by decide⟩ ?_
      refine T_iadd (pc := 31) C dX13_writeNumber_31 ?_
      refine T_guard (fun g14 => ?_)
      refine T_callVv (pc := 32) C [vi (48 + ((x1 / x2) % 10))] [] (fun o h9 hw => ct_X13_write s0 (48 + ((x1 / x2) % 10)) g14 hw o h9) kw_455 cm_X13_write rcm rfl rfl (Nat.le_of_ble_eq_true rfl) (by decide) (a' := 0) (b' := 0) ⟨rfl, rfl⟩ dX13_writeNumber_32 (fun s15 => ?_)
      refine T_iload_n (pc := 35) C dX13_writeNumber_35 rfl 2 rfl ?_
      refine T_bipush (pc := 36) C dX13_writeNumber_36 (by decide) ?_
      refine T_guard (fun g16 => ?_)
      refine T_idiv (pc := 38) C dX13_writeNumber_38 h2 (rngL rfl) ⟨g16, by decide⟩ ?_
      refine T_blV (rng_dv h2 ⟨g16, by decide⟩) (fun v17 hv17 => ?_)
      refine T_istore_n (pc := 39) (L' := [(2, vi v17), (0, .ref (ad 0)), (1, vi x1)]) C dX13_writeNumber_39 rfl (Nat.le_of_ble_eq_true rfl) rfl ?_
      refine T_goto (pc := 40) C 18 dX13_writeNumber_40 rfl ?_
      refine T_sub (L' := [(0, .ref (ad 0)), (1, vi x1), (2, vi v17)]) [1, 2, 0] rfl ?_
      exact ih s15 v17 hv17
def f_X13_writeNumber (N : Nat) (σ : Sm) (x1 : Int) : Option Sm :=
  (f_X13_writeNumber_2 σ x1 N 1).bind fun q10 => (f_X13_writeNumber_18 x1 N σ q10).bind fun q18 => some q18
theorem ct_X13_writeNumber {l : Launch} {cy : ClassId} {ad : Nat → Nat} {G : va_G} (N : Nat) (σ : Sm) (x1 : Int) (h1 : rng x1) (hw : wfm σ) (o : Sm) (h : f_X13_writeNumber N σ x1 = some o) : CtV l yX13_writeNumber cX13_writeNumber 3 rm_X13_writeNumber (wlm cy ad) wfm G (tym cy) [.ref (ad 0), vi x1] σ o := by
  refine ctV_of (by decide) (Nat.le_of_ble_eq_true rfl) hw o o h (fun X Y w => EndV X Y cX13_writeNumber rm_X13_writeNumber w) (fun _ _ h => h) (fun X A Q hX C => ?_)
  replace C : Cx X (Ym cy ad G A 3 Q) cX13_writeNumber RX13 none rm_X13_writeNumber (tym cy) := C
  show T X (Ym cy ad G A 3 Q) (fun w => EndV X (Ym cy ad G A 3 Q) cX13_writeNumber rm_X13_writeNumber w) 0 0 0 [(0, .ref (ad 0)), (1, vi x1)] [] σ (f_X13_writeNumber N σ x1)
  unfold f_X13_writeNumber
  refine T_iconst (pc := 0) C dX13_writeNumber_0 ?_
  refine T_istore_n (pc := 1) (L' := [(2, vi 1), (0, .ref (ad 0)), (1, vi x1)]) C dX13_writeNumber_1 rfl (Nat.le_of_ble_eq_true rfl) rfl ?_
  refine T_sub (L' := [(0, .ref (ad 0)), (1, vi x1), (2, vi 1)]) [1, 2, 0] rfl ?_
  refine T_loopE (lp_X13_writeNumber_2 C σ x1 h1 N 1 (rngL rfl)) (fun q10 hq10 => ?_)
  refine T_loopE (lp_X13_writeNumber_18 C x1 h1 N σ q10 hq10) (fun q18 hq18 => ?_)
  exact T_vret (pc := 43) q18 (fun h9 => h9) (by decide) dX13_writeNumber_43

abbrev rm_X13_renderLine : Room := ⟨2, 0, 0, 44⟩
theorem cm_X13_renderLine : cmV yX13_renderLine cX13_renderLine 3 (some .int) 1 := ⟨kw_119, kw_145, ⟨by decide +kernel, by decide +kernel, by decide +kernel⟩, kw_459, kw_460⟩
def f_X13_renderLine_84 (N : Nat) (x1 : Int) : Nat → Sm → Int → Option (Sm)
  | 0, _, _ => none
  | n + 1, s0, x2 => (f_X13_l s0 x1 5).bind fun v22 => (if v22 ≤ x2 then some s0 else (if x2 ≤ 0 then (f_X13_at s0 x1 x2).bind fun v25 => (f_X13_writeNumber N s0 v25).bind fun s26 => f_X13_renderLine_84 N x1 n s26 (x2 + 1) else (f_X13_write s0 62).bind fun s27 => (f_X13_at s27 x1 x2).bind fun v28 => (f_X13_writeNumber N s27 v28).bind fun s29 => f_X13_renderLine_84 N x1 n s29 (x2 + 1)))
theorem lp_X13_renderLine_84 {X : vjX} {A : Nat → Prop} {Q : State → Prop} {cy : ClassId} {ad : Nat → Nat} {G : va_G} (C : Cx X (Ym cy ad G A 3 Q) cX13_renderLine RX13 (some .int) rm_X13_renderLine (tym cy)) (N : Nat) (x1 : Int) (h1 : rng x1) : ∀ (n : Nat) (s0 : Sm) (x2 : Int) (h2 : rng x2), T X (Ym cy ad G A 3 Q) (fun (q : Sm) => True → J X (Ym cy ad G A 3 Q) 0 0 120 [(0, .ref (ad 0)), (1, vi x1)] [] q) 0 0 84 [(0, .ref (ad 0)), (1, vi x1), (2, vi x2)] [] s0 (f_X13_renderLine_84 N x1 n s0 x2) := by
  intro n
  induction n with
  | zero => intro s0 x2 h2; exact T_none
  | succ n ih =>
    intro s0 x2 h2
    rw [f_X13_renderLine_84]
    refine T_iload_n (pc := 84) C dX13_renderLine_84 rfl 2 rfl ?_
    refine T_aload_n (pc := 85) C dX13_renderLine_85 rfl 0 rfl ?_
    refine T_iload_n (pc := 86) C dX13_renderLine_86 rfl 1 rfl ?_
    refine T_iconst (pc := 87) C dX13_renderLine_87 ?_
    refine T_callVip (pc := 88) C [vi x1, vi 5] [vi x2] (fun o h9 hw => ct_X13_l s0 x1 5 h1 (rngL rfl) hw o h9) kw_211 cm_X13_l rcm rfl rfl (Nat.le_of_ble_eq_true rfl) (by decide) (a' := 0) (b' := 0) ⟨rfl, rfl⟩ dX13_renderLine_88 (fun v22 hv22 => ?_)
    refine T_icmp_ge (pc := 91) C 120 dX13_renderLine_91 rfl h2 hv22.1 (fun c23 => ?_) (fun c23 => ?_)
    · refine T_sub (L' := [(0, .ref (ad 0)), (1, vi x1)]) [0, 1] rfl ?_
      exact T_exit (fun h9 => h9 trivial)
    · refine T_iload_n (pc := 94) C dX13_renderLine_94 rfl 2 rfl ?_
      refine T_if_le (pc := 95) C 104 dX13_renderLine_95 rfl h2 (fun c24 => ?_) (fun c24 => ?_)
      · refine T_aload_n (pc := 104) C dX13_renderLine_104 rfl 0 rfl ?_
        refine T_aload_n (pc := 105) C dX13_renderLine_105 rfl 0 rfl ?_
        refine T_iload_n (pc := 106) C dX13_renderLine_106 rfl 1 rfl ?_
        refine T_iload_n (pc := 107) C dX13_renderLine_107 rfl 2 rfl ?_
        refine T_callVip (pc := 108) C [vi x1, vi x2] [.ref (ad 0)] (fun o h9 hw => ct_X13_at s0 x1 x2 h1 h2 hw o h9) kw_334 cm_X13_at rcm rfl rfl (Nat.le_of_ble_eq_true rfl) (by decide) (a' := 0) (b' := 0) ⟨rfl, rfl⟩ dX13_renderLine_108 (fun v25 hv25 => ?_)
        refine T_callVv (pc := 111) C [vi v25] [] (fun o h9 hw => ct_X13_writeNumber N s0 v25 hv25.1 hw o h9) kw_458 cm_X13_writeNumber rcm rfl rfl (Nat.le_of_ble_eq_true rfl) (by decide) (a' := 0) (b' := 0) ⟨rfl, rfl⟩ dX13_renderLine_111 (fun s26 => ?_)
        refine T_iinc (pc := 114) (L' := [(2, vi (x2 + 1)), (0, .ref (ad 0)), (1, vi x1)]) C dX13_renderLine_114 (Nat.le_of_ble_eq_true rfl) 2 rfl rfl ?_
        refine T_goto (pc := 117) C 84 dX13_renderLine_117 rfl ?_
        refine T_sub (L' := [(0, .ref (ad 0)), (1, vi x1), (2, vi (x2 + 1))]) [1, 2, 0] rfl ?_
        exact ih s26 (x2 + 1) (rng_inc c23 h2 hv22.1)
      · refine T_aload_n (pc := 98) C dX13_renderLine_98 rfl 0 rfl ?_
        refine T_bipush (pc := 99) C dX13_renderLine_99 (by decide) ?_
        refine T_callVv (pc := 101) C [vi 62] [] (fun o h9 hw => ct_X13_write s0 62 (rngL rfl) hw o h9) kw_455 cm_X13_write rcm rfl rfl (Nat.le_of_ble_eq_true rfl) (by decide) (a' := 0) (b' := 0) ⟨rfl, rfl⟩ dX13_renderLine_101 (fun s27 => ?_)
        refine T_aload_n (pc := 104) C dX13_renderLine_104 rfl 0 rfl ?_
        refine T_aload_n (pc := 105) C dX13_renderLine_105 rfl 0 rfl ?_
        refine T_iload_n (pc := 106) C dX13_renderLine_106 rfl 1 rfl ?_
        refine T_iload_n (pc := 107) C dX13_renderLine_107 rfl 2 rfl ?_
        refine T_callVip (pc := 108) C [vi x1, vi x2] [.ref (ad 0)] (fun o h9 hw => ct_X13_at s27 x1 x2 h1 h2 hw o h9) kw_334 cm_X13_at rcm rfl rfl (Nat.le_of_ble_eq_true rfl) (by decide) (a' := 0) (b' := 0) ⟨rfl, rfl⟩ dX13_renderLine_108 (fun v28 hv28 => ?_)
        refine T_callVv (pc := 111) C [vi v28] [] (fun o h9 hw => ct_X13_writeNumber N s27 v28 hv28.1 hw o h9) kw_458 cm_X13_writeNumber rcm rfl rfl (Nat.le_of_ble_eq_true rfl) (by decide) (a' := 0) (b' := 0) ⟨rfl, rfl⟩ dX13_renderLine_111 (fun s29 => ?_)
        refine T_iinc (pc := 114) (L' := [(2, vi (x2 + 1)), (0, .ref (ad 0)), (1, vi x1)]) C dX13_renderLine_114 (Nat.le_of_ble_eq_true rfl) 2 rfl rfl ?_
        refine T_goto (pc := 117) C 84 dX13_renderLine_117 rfl ?_
        refine T_sub (L' := [(0, .ref (ad 0)), (1, vi x1), (2, vi (x2 + 1))]) [1, 2, 0] rfl ?_
        exact ih s29 (x2 + 1) (rng_inc c23 h2 hv22.1)
def f_X13_renderLine (N : Nat) (σ : Sm) (x1 : Int) : Option (Sm × Int) :=
  (f_X13_isLine σ x1).bind fun v1 => (f_X13_checked σ v1).bind fun v2 => (if v2.2 ≤ 0 then bl (upm v2.1 16 0 0) fun s4 => (f_X13_l s4 x1 0).bind fun v5 => (f_X13_writeNumber N s4 v5).bind fun s6 => (f_X13_write s6 47).bind fun s7 => (f_X13_l s7 x1 1).bind fun v8 => (f_X13_writeNumber N s7 v8).bind fun s9 => (f_X13_write s9 43).bind fun s10 => (f_X13_hop s10 x1).bind fun v11 => (f_X13_writeNumber N s10 v11).bind fun s12 => (f_X13_write s12 120).bind fun s13 => (f_X13_l s13 x1 4).bind fun v14 => (f_X13_writeNumber N s13 v14).bind fun s15 => (f_X13_write s15 58).bind fun s16 => (f_X13_renderLine_84 N x1 N s16 0).bind fun q30 => (f_X13_l q30 x1 6).bind fun v31 => (if v31 = 1 then (f_X13_write q30 33).bind fun s34 => some (s34, (s34 16 0)) else some (q30, (q30 16 0))) else some (v2.1, 0))
theorem ct_X13_renderLine {l : Launch} {cy : ClassId} {ad : Nat → Nat} {G : va_G} (N : Nat) (σ : Sm) (x1 : Int) (h1 : rng x1) (hw : wfm σ) (o : Sm × Int) (h : f_X13_renderLine N σ x1 = some o) : CtI l yX13_renderLine cX13_renderLine 3 (some .int) rm_X13_renderLine (wlm cy ad) wfm G (tym cy) [.ref (ad 0), vi x1] σ o.1 o.2 := by
  refine ctI_of (by decide) (Nat.le_of_ble_eq_true rfl) hw o o h (fun X Y w => EndI X Y cX13_renderLine rm_X13_renderLine .int w) (fun _ _ h => h) (fun X A Q hX C => ?_)
  replace C : Cx X (Ym cy ad G A 3 Q) cX13_renderLine RX13 (some .int) rm_X13_renderLine (tym cy) := C
  show T X (Ym cy ad G A 3 Q) (fun w => EndI X (Ym cy ad G A 3 Q) cX13_renderLine rm_X13_renderLine .int w) 0 0 0 [(0, .ref (ad 0)), (1, vi x1)] [] σ (f_X13_renderLine N σ x1)
  unfold f_X13_renderLine
  refine T_aload_n (pc := 0) C dX13_renderLine_0 rfl 0 rfl ?_
  refine T_aload_n (pc := 1) C dX13_renderLine_1 rfl 0 rfl ?_
  refine T_iload_n (pc := 2) C dX13_renderLine_2 rfl 1 rfl ?_
  refine T_callVip (pc := 3) C [vi x1] [.ref (ad 0)] (fun o h9 hw => ct_X13_isLine σ x1 h1 hw o h9) kw_240 cm_X13_isLine rcm rfl rfl (Nat.le_of_ble_eq_true rfl) (by decide) (a' := 0) (b' := 0) ⟨rfl, rfl⟩ dX13_renderLine_3 (fun v1 hv1 => ?_)
  refine T_callVi (pc := 6) C [vi v1] [] (fun o h9 hw => ct_X13_checked σ v1 (bit_of_nar hv1) hw o h9) kw_321 cm_X13_checked rcm rfl rfl (Nat.le_of_ble_eq_true rfl) (by decide) (a' := 0) (b' := 0) ⟨rfl, rfl⟩ dX13_renderLine_6 (fun v2 hv2 => ?_)
  refine T_if_le (pc := 9) C 14 dX13_renderLine_9 rfl hv2.1 (fun c3 => ?_) (fun c3 => ?_)
  · refine T_aload_n (pc := 14) C dX13_renderLine_14 rfl 0 rfl ?_
    refine T_iconst (pc := 15) C dX13_renderLine_15 ?_
    refine Tm_put (pc := 16) C (ty := .int) 16 ⟨by decide, by decide⟩ (rngL rfl) kw_452 rfl (nar_I _) (fit_I _) dX13_renderLine_16 ?_
    refine T_blS (fun s4 => ?_)
    refine T_aload_n (pc := 19) C dX13_renderLine_19 rfl 0 rfl ?_
    refine T_aload_n (pc := 20) C dX13_renderLine_20 rfl 0 rfl ?_
    refine T_iload_n (pc := 21) C dX13_renderLine_21 rfl 1 rfl ?_
    refine T_iconst (pc := 22) C dX13_renderLine_22 ?_
    refine T_callVip (pc := 23) C [vi x1, vi 0] [.ref (ad 0)] (fun o h9 hw => ct_X13_l s4 x1 0 h1 (rngL rfl) hw o h9) kw_211 cm_X13_l rcm rfl rfl (Nat.le_of_ble_eq_true rfl) (by decide) (a' := 0) (b' := 0) ⟨rfl, rfl⟩ dX13_renderLine_23 (fun v5 hv5 => ?_)
    refine T_callVv (pc := 26) C [vi v5] [] (fun o h9 hw => ct_X13_writeNumber N s4 v5 hv5.1 hw o h9) kw_458 cm_X13_writeNumber rcm rfl rfl (Nat.le_of_ble_eq_true rfl) (by decide) (a' := 0) (b' := 0) ⟨rfl, rfl⟩ dX13_renderLine_26 (fun s6 => ?_)
    refine T_aload_n (pc := 29) C dX13_renderLine_29 rfl 0 rfl ?_
    refine T_bipush (pc := 30) C dX13_renderLine_30 (by decide) ?_
    refine T_callVv (pc := 32) C [vi 47] [] (fun o h9 hw => ct_X13_write s6 47 (rngL rfl) hw o h9) kw_455 cm_X13_write rcm rfl rfl (Nat.le_of_ble_eq_true rfl) (by decide) (a' := 0) (b' := 0) ⟨rfl, rfl⟩ dX13_renderLine_32 (fun s7 => ?_)
    refine T_aload_n (pc := 35) C dX13_renderLine_35 rfl 0 rfl ?_
    refine T_aload_n (pc := 36) C dX13_renderLine_36 rfl 0 rfl ?_
    refine T_iload_n (pc := 37) C dX13_renderLine_37 rfl 1 rfl ?_
    refine T_iconst (pc := 38) C dX13_renderLine_38 ?_
    refine T_callVip (pc := 39) C [vi x1, vi 1] [.ref (ad 0)] (fun o h9 hw => ct_X13_l s7 x1 1 h1 (rngL rfl) hw o h9) kw_211 cm_X13_l rcm rfl rfl (Nat.le_of_ble_eq_true rfl) (by decide) (a' := 0) (b' := 0) ⟨rfl, rfl⟩ dX13_renderLine_39 (fun v8 hv8 => ?_)
    refine T_callVv (pc := 42) C [vi v8] [] (fun o h9 hw => ct_X13_writeNumber N s7 v8 hv8.1 hw o h9) kw_458 cm_X13_writeNumber rcm rfl rfl (Nat.le_of_ble_eq_true rfl) (by decide) (a' := 0) (b' := 0) ⟨rfl, rfl⟩ dX13_renderLine_42 (fun s9 => ?_)
    refine T_aload_n (pc := 45) C dX13_renderLine_45 rfl 0 rfl ?_
    refine T_bipush (pc := 46) C dX13_renderLine_46 (by decide) ?_
    refine T_callVv (pc := 48) C [vi 43] [] (fun o h9 hw => ct_X13_write s9 43 (rngL rfl) hw o h9) kw_455 cm_X13_write rcm rfl rfl (Nat.le_of_ble_eq_true rfl) (by decide) (a' := 0) (b' := 0) ⟨rfl, rfl⟩ dX13_renderLine_48 (fun s10 => ?_)
    refine T_aload_n (pc := 51) C dX13_renderLine_51 rfl 0 rfl ?_
    refine T_aload_n (pc := 52) C dX13_renderLine_52 rfl 0 rfl ?_
    refine T_iload_n (pc := 53) C dX13_renderLine_53 rfl 1 rfl ?_
    refine T_callVip (pc := 54) C [vi x1] [.ref (ad 0)] (fun o h9 hw => ct_X13_hop s10 x1 h1 hw o h9) kw_220 cm_X13_hop rcm rfl rfl (Nat.le_of_ble_eq_true rfl) (by decide) (a' := 0) (b' := 0) ⟨rfl, rfl⟩ dX13_renderLine_54 (fun v11 hv11 => ?_)
    refine T_callVv (pc := 57) C [vi v11] [] (fun o h9 hw => ct_X13_writeNumber N s10 v11 hv11.1 hw o h9) kw_458 cm_X13_writeNumber rcm rfl rfl (Nat.le_of_ble_eq_true rfl) (by decide) (a' := 0) (b' := 0) ⟨rfl, rfl⟩ dX13_renderLine_57 (fun s12 => ?_)
    refine T_aload_n (pc := 60) C dX13_renderLine_60 rfl 0 rfl ?_
    refine T_bipush (pc := 61) C dX13_renderLine_61 (by decide) ?_
    refine T_callVv (pc := 63) C [vi 120] [] (fun o h9 hw => ct_X13_write s12 120 (rngL rfl) hw o h9) kw_455 cm_X13_write rcm rfl rfl (Nat.le_of_ble_eq_true rfl) (by decide) (a' := 0) (b' := 0) ⟨rfl, rfl⟩ dX13_renderLine_63 (fun s13 => ?_)
    refine T_aload_n (pc := 66) C dX13_renderLine_66 rfl 0 rfl ?_
    refine T_aload_n (pc := 67) C dX13_renderLine_67 rfl 0 rfl ?_
    refine T_iload_n (pc := 68) C dX13_renderLine_68 rfl 1 rfl ?_
    refine T_iconst (pc := 69) C dX13_renderLine_69 ?_
    refine T_callVip (pc := 70) C [vi x1, vi 4] [.ref (ad 0)] (fun o h9 hw => ct_X13_l s13 x1 4 h1 (rngL rfl) hw o h9) kw_211 cm_X13_l rcm rfl rfl (Nat.le_of_ble_eq_true rfl) (by decide) (a' := 0) (b' := 0) ⟨rfl, rfl⟩ dX13_renderLine_70 (fun v14 hv14 => ?_)
    refine T_callVv (pc := 73) C [vi v14] [] (fun o h9 hw => ct_X13_writeNumber N s13 v14 hv14.1 hw o h9) kw_458 cm_X13_writeNumber rcm rfl rfl (Nat.le_of_ble_eq_true rfl) (by decide) (a' := 0) (b' := 0) ⟨rfl, rfl⟩ dX13_renderLine_73 (fun s15 => ?_)
    refine T_aload_n (pc := 76) C dX13_renderLine_76 rfl 0 rfl ?_
    refine T_bipush (pc := 77) C dX13_renderLine_77 (by decide) ?_
    refine T_callVv (pc := 79) C [vi 58] [] (fun o h9 hw => ct_X13_write s15 58 (rngL rfl) hw o h9) kw_455 cm_X13_write rcm rfl rfl (Nat.le_of_ble_eq_true rfl) (by decide) (a' := 0) (b' := 0) ⟨rfl, rfl⟩ dX13_renderLine_79 (fun s16 => ?_)
    refine T_iconst (pc := 82) C dX13_renderLine_82 ?_
    refine T_istore_n (pc := 83) (L' := [(2, vi 0), (0, .ref (ad 0)), (1, vi x1)]) C dX13_renderLine_83 rfl (Nat.le_of_ble_eq_true rfl) rfl ?_
    refine T_sub (L' := [(0, .ref (ad 0)), (1, vi x1), (2, vi 0)]) [1, 2, 0] rfl ?_
    refine T_loopE (lp_X13_renderLine_84 C N x1 h1 N s16 0 (rngL rfl)) (fun q30 hq30 => ?_)
    refine T_aload_n (pc := 120) C dX13_renderLine_120 rfl 0 rfl ?_
    refine T_iload_n (pc := 121) C dX13_renderLine_121 rfl 1 rfl ?_
    refine T_bipush (pc := 122) C dX13_renderLine_122 (by decide) ?_
    refine T_callVip (pc := 124) C [vi x1, vi 6] [] (fun o h9 hw => ct_X13_l q30 x1 6 h1 (rngL rfl) hw o h9) kw_211 cm_X13_l rcm rfl rfl (Nat.le_of_ble_eq_true rfl) (by decide) (a' := 0) (b' := 0) ⟨rfl, rfl⟩ dX13_renderLine_124 (fun v31 hv31 => ?_)
    refine T_iconst (pc := 127) C dX13_renderLine_127 ?_
    refine T_icmp_ne (pc := 128) C 137 dX13_renderLine_128 rfl hv31.1 (rngL rfl) (fun c32 => ?_) (fun c32 => ?_)
    · refine T_aload_n (pc := 137) C dX13_renderLine_137 rfl 0 rfl ?_
      refine Tm_get (pc := 138) C 16 ⟨by decide, by decide⟩ kw_452 dX13_renderLine_138 (fun r33 => ?_)
      exact T_iret (pc := 141) (q30, (q30 16 0)) (fun h9 => h9) r33 (nar_I _) (by decide) dX13_renderLine_141
    · refine T_aload_n (pc := 131) C dX13_renderLine_131 rfl 0 rfl ?_
      refine T_bipush (pc := 132) C dX13_renderLine_132 (by decide) ?_
      refine T_callVv (pc := 134) C [vi 33] [] (fun o h9 hw => ct_X13_write q30 33 (rngL rfl) hw o h9) kw_455 cm_X13_write rcm rfl rfl (Nat.le_of_ble_eq_true rfl) (by decide) (a' := 0) (b' := 0) ⟨rfl, rfl⟩ dX13_renderLine_134 (fun s34 => ?_)
      refine T_aload_n (pc := 137) C dX13_renderLine_137 rfl 0 rfl ?_
      refine Tm_get (pc := 138) C 16 ⟨by decide, by decide⟩ kw_452 dX13_renderLine_138 (fun r35 => ?_)
      exact T_iret (pc := 141) (s34, (s34 16 0)) (fun h9 => h9) r35 (nar_I _) (by decide) dX13_renderLine_141
  · refine T_iconst (pc := 12) C dX13_renderLine_12 ?_
    exact T_iret (pc := 13) (v2.1, 0) (fun h9 => h9) (rngL rfl) (nar_I _) (by decide) dX13_renderLine_13

abbrev rm_X13_renderTicket : Room := ⟨2, 0, 0, 44⟩
theorem cm_X13_renderTicket : cmV yX13_renderTicket cX13_renderTicket 3 (some .int) 1 := ⟨kw_120, kw_145, ⟨by decide +kernel, by decide +kernel, by decide +kernel⟩, kw_461, kw_462⟩
def f_X13_renderTicket (N : Nat) (σ : Sm) (x1 : Int) : Option (Sm × Int) :=
  (f_X13_ticket N σ x1).bind fun v1 => (if v1 < 0 then (f_X13_checked σ 0).bind fun v3 => (if v3.2 ≤ 0 then (f_X13_ticket N v3.1 x1).bind fun v5 => bl (upm v3.1 16 0 0) fun s6 => (f_X13_write s6 35).bind fun s7 => (f_X13_writeNumber N s7 x1).bind fun s8 => (f_X13_write s8 32).bind fun s9 => (f_X13_t s9 v5 1).bind fun v10 => (f_X13_writeNumber N s9 v10).bind fun s11 => (f_X13_write s11 46).bind fun s12 => (f_X13_t s12 v5 2).bind fun v13 => (f_X13_writeNumber N s12 v13).bind fun s14 => (f_X13_write s14 32).bind fun s15 => (f_X13_t s15 v5 3).bind fun v16 => (f_X13_writeNumber N s15 v16).bind fun s17 => (f_X13_write s17 62).bind fun s18 => (f_X13_t s18 v5 4).bind fun v19 => (f_X13_writeNumber N s18 v19).bind fun s20 => (f_X13_write s20 61).bind fun s21 => (f_X13_t s21 v5 5).bind fun v22 => (f_X13_writeNumber N s21 v22).bind fun s23 => some (s23, (s23 16 0)) else some (v3.1, 0)) else (f_X13_checked σ 1).bind fun v25 => (if v25.2 ≤ 0 then (f_X13_ticket N v25.1 x1).bind fun v27 => bl (upm v25.1 16 0 0) fun s28 => (f_X13_write s28 35).bind fun s29 => (f_X13_writeNumber N s29 x1).bind fun s30 => (f_X13_write s30 32).bind fun s31 => (f_X13_t s31 v27 1).bind fun v32 => (f_X13_writeNumber N s31 v32).bind fun s33 => (f_X13_write s33 46).bind fun s34 => (f_X13_t s34 v27 2).bind fun v35 => (f_X13_writeNumber N s34 v35).bind fun s36 => (f_X13_write s36 32).bind fun s37 => (f_X13_t s37 v27 3).bind fun v38 => (f_X13_writeNumber N s37 v38).bind fun s39 => (f_X13_write s39 62).bind fun s40 => (f_X13_t s40 v27 4).bind fun v41 => (f_X13_writeNumber N s40 v41).bind fun s42 => (f_X13_write s42 61).bind fun s43 => (f_X13_t s43 v27 5).bind fun v44 => (f_X13_writeNumber N s43 v44).bind fun s45 => some (s45, (s45 16 0)) else some (v25.1, 0)))
theorem ct_X13_renderTicket {l : Launch} {cy : ClassId} {ad : Nat → Nat} {G : va_G} (N : Nat) (σ : Sm) (x1 : Int) (h1 : rng x1) (hw : wfm σ) (o : Sm × Int) (h : f_X13_renderTicket N σ x1 = some o) : CtI l yX13_renderTicket cX13_renderTicket 3 (some .int) rm_X13_renderTicket (wlm cy ad) wfm G (tym cy) [.ref (ad 0), vi x1] σ o.1 o.2 := by
  refine ctI_of (by decide) (Nat.le_of_ble_eq_true rfl) hw o o h (fun X Y w => EndI X Y cX13_renderTicket rm_X13_renderTicket .int w) (fun _ _ h => h) (fun X A Q hX C => ?_)
  replace C : Cx X (Ym cy ad G A 3 Q) cX13_renderTicket RX13 (some .int) rm_X13_renderTicket (tym cy) := C
  show T X (Ym cy ad G A 3 Q) (fun w => EndI X (Ym cy ad G A 3 Q) cX13_renderTicket rm_X13_renderTicket .int w) 0 0 0 [(0, .ref (ad 0)), (1, vi x1)] [] σ (f_X13_renderTicket N σ x1)
  unfold f_X13_renderTicket
  refine T_aload_n (pc := 0) C dX13_renderTicket_0 rfl 0 rfl ?_
  refine T_aload_n (pc := 1) C dX13_renderTicket_1 rfl 0 rfl ?_
  refine T_iload_n (pc := 2) C dX13_renderTicket_2 rfl 1 rfl ?_
  refine T_callVip (pc := 3) C [vi x1] [.ref (ad 0)] (fun o h9 hw => ct_X13_ticket N σ x1 h1 hw o h9) kw_295 cm_X13_ticket rcm rfl rfl (Nat.le_of_ble_eq_true rfl) (by decide) (a' := 0) (b' := 0) ⟨rfl, rfl⟩ dX13_renderTicket_3 (fun v1 hv1 => ?_)
  refine T_if_lt (pc := 6) C 13 dX13_renderTicket_6 rfl hv1.1 (fun c2 => ?_) (fun c2 => ?_)
  · refine T_iconst (pc := 13) C dX13_renderTicket_13 ?_
    refine T_callVi (pc := 14) C [vi 0] [] (fun o h9 hw => ct_X13_checked σ 0 (Or.inl rfl) hw o h9) kw_321 cm_X13_checked rcm rfl rfl (Nat.le_of_ble_eq_true rfl) (by decide) (a' := 0) (b' := 0) ⟨rfl, rfl⟩ dX13_renderTicket_14 (fun v3 hv3 => ?_)
    refine T_if_le (pc := 17) C 22 dX13_renderTicket_17 rfl hv3.1 (fun c4 => ?_) (fun c4 => ?_)
    · refine T_aload_n (pc := 22) C dX13_renderTicket_22 rfl 0 rfl ?_
      refine T_iload_n (pc := 23) C dX13_renderTicket_23 rfl 1 rfl ?_
      refine T_callVip (pc := 24) C [vi x1] [] (fun o h9 hw => ct_X13_ticket N v3.1 x1 h1 hw o h9) kw_295 cm_X13_ticket rcm rfl rfl (Nat.le_of_ble_eq_true rfl) (by decide) (a' := 0) (b' := 0) ⟨rfl, rfl⟩ dX13_renderTicket_24 (fun v5 hv5 => ?_)
      refine T_istore_n (pc := 27) (L' := [(2, vi v5), (0, .ref (ad 0)), (1, vi x1)]) C dX13_renderTicket_27 rfl (Nat.le_of_ble_eq_true rfl) rfl ?_
      refine T_aload_n (pc := 28) C dX13_renderTicket_28 rfl 1 rfl ?_
      refine T_iconst (pc := 29) C dX13_renderTicket_29 ?_
      refine Tm_put (pc := 30) C (ty := .int) 16 ⟨by decide, by decide⟩ (rngL rfl) kw_452 rfl (nar_I _) (fit_I _) dX13_renderTicket_30 ?_
      refine T_blS (fun s6 => ?_)
      refine T_aload_n (pc := 33) C dX13_renderTicket_33 rfl 1 rfl ?_
      refine T_bipush (pc := 34) C dX13_renderTicket_34 (by decide) ?_
      refine T_callVv (pc := 36) C [vi 35] [] (fun o h9 hw => ct_X13_write s6 35 (rngL rfl) hw o h9) kw_455 cm_X13_write rcm rfl rfl (Nat.le_of_ble_eq_true rfl) (by decide) (a' := 0) (b' := 0) ⟨rfl, rfl⟩ dX13_renderTicket_36 (fun s7 => ?_)
      refine T_aload_n (pc := 39) C dX13_renderTicket_39 rfl 1 rfl ?_
      refine T_iload_n (pc := 40) C dX13_renderTicket_40 rfl 2 rfl ?_
      refine T_callVv (pc := 41) C [vi x1] [] (fun o h9 hw => ct_X13_writeNumber N s7 x1 h1 hw o h9) kw_458 cm_X13_writeNumber rcm rfl rfl (Nat.le_of_ble_eq_true rfl) (by decide) (a' := 0) (b' := 0) ⟨rfl, rfl⟩ dX13_renderTicket_41 (fun s8 => ?_)
      refine T_aload_n (pc := 44) C dX13_renderTicket_44 rfl 1 rfl ?_
      refine T_bipush (pc := 45) C dX13_renderTicket_45 (by decide) ?_
      refine T_callVv (pc := 47) C [vi 32] [] (fun o h9 hw => ct_X13_write s8 32 (rngL rfl) hw o h9) kw_455 cm_X13_write rcm rfl rfl (Nat.le_of_ble_eq_true rfl) (by decide) (a' := 0) (b' := 0) ⟨rfl, rfl⟩ dX13_renderTicket_47 (fun s9 => ?_)
      refine T_aload_n (pc := 50) C dX13_renderTicket_50 rfl 1 rfl ?_
      refine T_aload_n (pc := 51) C dX13_renderTicket_51 rfl 1 rfl ?_
      refine T_iload_n (pc := 52) C dX13_renderTicket_52 rfl 0 rfl ?_
      refine T_iconst (pc := 53) C dX13_renderTicket_53 ?_
      refine T_callVip (pc := 54) C [vi v5, vi 1] [.ref (ad 0)] (fun o h9 hw => ct_X13_t s9 v5 1 hv5.1 (rngL rfl) hw o h9) kw_237 cm_X13_t rcm rfl rfl (Nat.le_of_ble_eq_true rfl) (by decide) (a' := 0) (b' := 0) ⟨rfl, rfl⟩ dX13_renderTicket_54 (fun v10 hv10 => ?_)
      refine T_callVv (pc := 57) C [vi v10] [] (fun o h9 hw => ct_X13_writeNumber N s9 v10 hv10.1 hw o h9) kw_458 cm_X13_writeNumber rcm rfl rfl (Nat.le_of_ble_eq_true rfl) (by decide) (a' := 0) (b' := 0) ⟨rfl, rfl⟩ dX13_renderTicket_57 (fun s11 => ?_)
      refine T_aload_n (pc := 60) C dX13_renderTicket_60 rfl 1 rfl ?_
      refine T_bipush (pc := 61) C dX13_renderTicket_61 (by decide) ?_
      refine T_callVv (pc := 63) C [vi 46] [] (fun o h9 hw => ct_X13_write s11 46 (rngL rfl) hw o h9) kw_455 cm_X13_write rcm rfl rfl (Nat.le_of_ble_eq_true rfl) (by decide) (a' := 0) (b' := 0) ⟨rfl, rfl⟩ dX13_renderTicket_63 (fun s12 => ?_)
      refine T_aload_n (pc := 66) C dX13_renderTicket_66 rfl 1 rfl ?_
      refine T_aload_n (pc := 67) C dX13_renderTicket_67 rfl 1 rfl ?_
      refine T_iload_n (pc := 68) C dX13_renderTicket_68 rfl 0 rfl ?_
      refine T_iconst (pc := 69) C dX13_renderTicket_69 ?_
      refine T_callVip (pc := 70) C [vi v5, vi 2] [.ref (ad 0)] (fun o h9 hw => ct_X13_t s12 v5 2 hv5.1 (rngL rfl) hw o h9) kw_237 cm_X13_t rcm rfl rfl (Nat.le_of_ble_eq_true rfl) (by decide) (a' := 0) (b' := 0) ⟨rfl, rfl⟩ dX13_renderTicket_70 (fun v13 hv13 => ?_)
      refine T_callVv (pc := 73) C [vi v13] [] (fun o h9 hw => ct_X13_writeNumber N s12 v13 hv13.1 hw o h9) kw_458 cm_X13_writeNumber rcm rfl rfl (Nat.le_of_ble_eq_true rfl) (by decide) (a' := 0) (b' := 0) ⟨rfl, rfl⟩ dX13_renderTicket_73 (fun s14 => ?_)
      refine T_aload_n (pc := 76) C dX13_renderTicket_76 rfl 1 rfl ?_
      refine T_bipush (pc := 77) C dX13_renderTicket_77 (by decide) ?_
      refine T_callVv (pc := 79) C [vi 32] [] (fun o h9 hw => ct_X13_write s14 32 (rngL rfl) hw o h9) kw_455 cm_X13_write rcm rfl rfl (Nat.le_of_ble_eq_true rfl) (by decide) (a' := 0) (b' := 0) ⟨rfl, rfl⟩ dX13_renderTicket_79 (fun s15 => ?_)
      refine T_aload_n (pc := 82) C dX13_renderTicket_82 rfl 1 rfl ?_
      refine T_aload_n (pc := 83) C dX13_renderTicket_83 rfl 1 rfl ?_
      refine T_iload_n (pc := 84) C dX13_renderTicket_84 rfl 0 rfl ?_
      refine T_iconst (pc := 85) C dX13_renderTicket_85 ?_
      refine T_callVip (pc := 86) C [vi v5, vi 3] [.ref (ad 0)] (fun o h9 hw => ct_X13_t s15 v5 3 hv5.1 (rngL rfl) hw o h9) kw_237 cm_X13_t rcm rfl rfl (Nat.le_of_ble_eq_true rfl) (by decide) (a' := 0) (b' := 0) ⟨rfl, rfl⟩ dX13_renderTicket_86 (fun v16 hv16 => ?_)
      refine T_callVv (pc := 89) C [vi v16] [] (fun o h9 hw => ct_X13_writeNumber N s15 v16 hv16.1 hw o h9) kw_458 cm_X13_writeNumber rcm rfl rfl (Nat.le_of_ble_eq_true rfl) (by decide) (a' := 0) (b' := 0) ⟨rfl, rfl⟩ dX13_renderTicket_89 (fun s17 => ?_)
      refine T_aload_n (pc := 92) C dX13_renderTicket_92 rfl 1 rfl ?_
      refine T_bipush (pc := 93) C dX13_renderTicket_93 (by decide) ?_
      refine T_callVv (pc := 95) C [vi 62] [] (fun o h9 hw => ct_X13_write s17 62 (rngL rfl) hw o h9) kw_455 cm_X13_write rcm rfl rfl (Nat.le_of_ble_eq_true rfl) (by decide) (a' := 0) (b' := 0) ⟨rfl, rfl⟩ dX13_renderTicket_95 (fun s18 => ?_)
      refine T_aload_n (pc := 98) C dX13_renderTicket_98 rfl 1 rfl ?_
      refine T_aload_n (pc := 99) C dX13_renderTicket_99 rfl 1 rfl ?_
      refine T_iload_n (pc := 100) C dX13_renderTicket_100 rfl 0 rfl ?_
      refine T_iconst (pc := 101) C dX13_renderTicket_101 ?_
      refine T_callVip (pc := 102) C [vi v5, vi 4] [.ref (ad 0)] (fun o h9 hw => ct_X13_t s18 v5 4 hv5.1 (rngL rfl) hw o h9) kw_237 cm_X13_t rcm rfl rfl (Nat.le_of_ble_eq_true rfl) (by decide) (a' := 0) (b' := 0) ⟨rfl, rfl⟩ dX13_renderTicket_102 (fun v19 hv19 => ?_)
      refine T_callVv (pc := 105) C [vi v19] [] (fun o h9 hw => ct_X13_writeNumber N s18 v19 hv19.1 hw o h9) kw_458 cm_X13_writeNumber rcm rfl rfl (Nat.le_of_ble_eq_true rfl) (by decide) (a' := 0) (b' := 0) ⟨rfl, rfl⟩ dX13_renderTicket_105 (fun s20 => ?_)
      refine T_aload_n (pc := 108) C dX13_renderTicket_108 rfl 1 rfl ?_
      refine T_bipush (pc := 109) C dX13_renderTicket_109 (by decide) ?_
      refine T_callVv (pc := 111) C [vi 61] [] (fun o h9 hw => ct_X13_write s20 61 (rngL rfl) hw o h9) kw_455 cm_X13_write rcm rfl rfl (Nat.le_of_ble_eq_true rfl) (by decide) (a' := 0) (b' := 0) ⟨rfl, rfl⟩ dX13_renderTicket_111 (fun s21 => ?_)
      refine T_aload_n (pc := 114) C dX13_renderTicket_114 rfl 1 rfl ?_
      refine T_aload_n (pc := 115) C dX13_renderTicket_115 rfl 1 rfl ?_
      refine T_iload_n (pc := 116) C dX13_renderTicket_116 rfl 0 rfl ?_
      refine T_iconst (pc := 117) C dX13_renderTicket_117 ?_
      refine T_callVip (pc := 118) C [vi v5, vi 5] [.ref (ad 0)] (fun o h9 hw => ct_X13_t s21 v5 5 hv5.1 (rngL rfl) hw o h9) kw_237 cm_X13_t rcm rfl rfl (Nat.le_of_ble_eq_true rfl) (by decide) (a' := 0) (b' := 0) ⟨rfl, rfl⟩ dX13_renderTicket_118 (fun v22 hv22 => ?_)
      refine T_callVv (pc := 121) C [vi v22] [] (fun o h9 hw => ct_X13_writeNumber N s21 v22 hv22.1 hw o h9) kw_458 cm_X13_writeNumber rcm rfl rfl (Nat.le_of_ble_eq_true rfl) (by decide) (a' := 0) (b' := 0) ⟨rfl, rfl⟩ dX13_renderTicket_121 (fun s23 => ?_)
      refine T_aload_n (pc := 124) C dX13_renderTicket_124 rfl 1 rfl ?_
      refine Tm_get (pc := 125) C 16 ⟨by decide, by decide⟩ kw_452 dX13_renderTicket_125 (fun r24 => ?_)
      exact T_iret (pc := 128) (s23, (s23 16 0)) (fun h9 => h9) r24 (nar_I _) (by decide) dX13_renderTicket_128
    · refine T_iconst (pc := 20) C dX13_renderTicket_20 ?_
      exact T_iret (pc := 21) (v3.1, 0) (fun h9 => h9) (rngL rfl) (nar_I _) (by decide) dX13_renderTicket_21
  · refine T_iconst (pc := 9) C dX13_renderTicket_9 ?_
    refine T_goto (pc := 10) C 14 dX13_renderTicket_10 rfl ?_
    refine T_callVi (pc := 14) C [vi 1] [] (fun o h9 hw => ct_X13_checked σ 1 (Or.inr rfl) hw o h9) kw_321 cm_X13_checked rcm rfl rfl (Nat.le_of_ble_eq_true rfl) (by decide) (a' := 0) (b' := 0) ⟨rfl, rfl⟩ dX13_renderTicket_14 (fun v25 hv25 => ?_)
    refine T_if_le (pc := 17) C 22 dX13_renderTicket_17 rfl hv25.1 (fun c26 => ?_) (fun c26 => ?_)
    · refine T_aload_n (pc := 22) C dX13_renderTicket_22 rfl 0 rfl ?_
      refine T_iload_n (pc := 23) C dX13_renderTicket_23 rfl 1 rfl ?_
      refine T_callVip (pc := 24) C [vi x1] [] (fun o h9 hw => ct_X13_ticket N v25.1 x1 h1 hw o h9) kw_295 cm_X13_ticket rcm rfl rfl (Nat.le_of_ble_eq_true rfl) (by decide) (a' := 0) (b' := 0) ⟨rfl, rfl⟩ dX13_renderTicket_24 (fun v27 hv27 => ?_)
      refine T_istore_n (pc := 27) (L' := [(2, vi v27), (0, .ref (ad 0)), (1, vi x1)]) C dX13_renderTicket_27 rfl (Nat.le_of_ble_eq_true rfl) rfl ?_
      refine T_aload_n (pc := 28) C dX13_renderTicket_28 rfl 1 rfl ?_
      refine T_iconst (pc := 29) C dX13_renderTicket_29 ?_
      refine Tm_put (pc := 30) C (ty := .int) 16 ⟨by decide, by decide⟩ (rngL rfl) kw_452 rfl (nar_I _) (fit_I _) dX13_renderTicket_30 ?_
      refine T_blS (fun s28 => ?_)
      refine T_aload_n (pc := 33) C dX13_renderTicket_33 rfl 1 rfl ?_
      refine T_bipush (pc := 34) C dX13_renderTicket_34 (by decide) ?_
      refine T_callVv (pc := 36) C [vi 35] [] (fun o h9 hw => ct_X13_write s28 35 (rngL rfl) hw o h9) kw_455 cm_X13_write rcm rfl rfl (Nat.le_of_ble_eq_true rfl) (by decide) (a' := 0) (b' := 0) ⟨rfl, rfl⟩ dX13_renderTicket_36 (fun s29 => ?_)
      refine T_aload_n (pc := 39) C dX13_renderTicket_39 rfl 1 rfl ?_
      refine T_iload_n (pc := 40) C dX13_renderTicket_40 rfl 2 rfl ?_
      refine T_callVv (pc := 41) C [vi x1] [] (fun o h9 hw => ct_X13_writeNumber N s29 x1 h1 hw o h9) kw_458 cm_X13_writeNumber rcm rfl rfl (Nat.le_of_ble_eq_true rfl) (by decide) (a' := 0) (b' := 0) ⟨rfl, rfl⟩ dX13_renderTicket_41 (fun s30 => ?_)
      refine T_aload_n (pc := 44) C dX13_renderTicket_44 rfl 1 rfl ?_
      refine T_bipush (pc := 45) C dX13_renderTicket_45 (by decide) ?_
      refine T_callVv (pc := 47) C [vi 32] [] (fun o h9 hw => ct_X13_write s30 32 (rngL rfl) hw o h9) kw_455 cm_X13_write rcm rfl rfl (Nat.le_of_ble_eq_true rfl) (by decide) (a' := 0) (b' := 0) ⟨rfl, rfl⟩ dX13_renderTicket_47 (fun s31 => ?_)
      refine T_aload_n (pc := 50) C dX13_renderTicket_50 rfl 1 rfl ?_
      refine T_aload_n (pc := 51) C dX13_renderTicket_51 rfl 1 rfl ?_
      refine T_iload_n (pc := 52) C dX13_renderTicket_52 rfl 0 rfl ?_
      refine T_iconst (pc := 53) C dX13_renderTicket_53 ?_
      refine T_callVip (pc := 54) C [vi v27, vi 1] [.ref (ad 0)] (fun o h9 hw => ct_X13_t s31 v27 1 hv27.1 (rngL rfl) hw o h9) kw_237 cm_X13_t rcm rfl rfl (Nat.le_of_ble_eq_true rfl) (by decide) (a' := 0) (b' := 0) ⟨rfl, rfl⟩ dX13_renderTicket_54 (fun v32 hv32 => ?_)
      refine T_callVv (pc := 57) C [vi v32] [] (fun o h9 hw => ct_X13_writeNumber N s31 v32 hv32.1 hw o h9) kw_458 cm_X13_writeNumber rcm rfl rfl (Nat.le_of_ble_eq_true rfl) (by decide) (a' := 0) (b' := 0) ⟨rfl, rfl⟩ dX13_renderTicket_57 (fun s33 => ?_)
      refine T_aload_n (pc := 60) C dX13_renderTicket_60 rfl 1 rfl ?_
      refine T_bipush (pc := 61) C dX13_renderTicket_61 (by decide) ?_
      refine T_callVv (pc := 63) C [vi 46] [] (fun o h9 hw => ct_X13_write s33 46 (rngL rfl) hw o h9) kw_455 cm_X13_write rcm rfl rfl (Nat.le_of_ble_eq_true rfl) (by decide) (a' := 0) (b' := 0) ⟨rfl, rfl⟩ dX13_renderTicket_63 (fun s34 => ?_)
      refine T_aload_n (pc := 66) C dX13_renderTicket_66 rfl 1 rfl ?_
      refine T_aload_n (pc := 67) C dX13_renderTicket_67 rfl 1 rfl ?_
      refine T_iload_n (pc := 68) C dX13_renderTicket_68 rfl 0 rfl ?_
      refine T_iconst (pc := 69) C dX13_renderTicket_69 ?_
      refine T_callVip (pc := 70) C [vi v27, vi 2] [.ref (ad 0)] (fun o h9 hw => ct_X13_t s34 v27 2 hv27.1 (rngL rfl) hw o h9) kw_237 cm_X13_t rcm rfl rfl (Nat.le_of_ble_eq_true rfl) (by decide) (a' := 0) (b' := 0) ⟨rfl, rfl⟩ dX13_renderTicket_70 (fun v35 hv35 => ?_)
      refine T_callVv (pc := 73) C [vi v35] [] (fun o h9 hw => ct_X13_writeNumber N s34 v35 hv35.1 hw o h9) kw_458 cm_X13_writeNumber rcm rfl rfl (Nat.le_of_ble_eq_true rfl) (by decide) (a' := 0) (b' := 0) ⟨rfl, rfl⟩ dX13_renderTicket_73 (fun s36 => ?_)
      refine T_aload_n (pc := 76) C dX13_renderTicket_76 rfl 1 rfl ?_
      refine T_bipush (pc := 77) C dX13_renderTicket_77 (by decide) ?_
      refine T_callVv (pc := 79) C [vi 32] [] (fun o h9 hw => ct_X13_write s36 32 (rngL rfl) hw o h9) kw_455 cm_X13_write rcm rfl rfl (Nat.le_of_ble_eq_true rfl) (by decide) (a' := 0) (b' := 0) ⟨rfl, rfl⟩ dX13_renderTicket_79 (fun s37 => ?_)
      refine T_aload_n (pc := 82) C dX13_renderTicket_82 rfl 1 rfl ?_
      refine T_aload_n (pc := 83) C dX13_renderTicket_83 rfl 1 rfl ?_
      refine T_iload_n (pc := 84) C dX13_renderTicket_84 rfl 0 rfl ?_
      refine T_iconst (pc := 85) C dX13_renderTicket_85 ?_
      refine T_callVip (pc := 86) C [vi v27, vi 3] [.ref (ad 0)] (fun o h9 hw => ct_X13_t s37 v27 3 hv27.1 (rngL rfl) hw o h9) kw_237 cm_X13_t rcm rfl rfl (Nat.le_of_ble_eq_true rfl) (by decide) (a' := 0) (b' := 0) ⟨rfl, rfl⟩ dX13_renderTicket_86 (fun v38 hv38 => ?_)
      refine T_callVv (pc := 89) C [vi v38] [] (fun o h9 hw => ct_X13_writeNumber N s37 v38 hv38.1 hw o h9) kw_458 cm_X13_writeNumber rcm rfl rfl (Nat.le_of_ble_eq_true rfl) (by decide) (a' := 0) (b' := 0) ⟨rfl, rfl⟩ dX13_renderTicket_89 (fun s39 => ?_)
      refine T_aload_n (pc := 92) C dX13_renderTicket_92 rfl 1 rfl ?_
      refine T_bipush (pc := 93) C dX13_renderTicket_93 (by decide) ?_
      refine T_callVv (pc := 95) C [vi 62] [] (fun o h9 hw => ct_X13_write s39 62 (rngL rfl) hw o h9) kw_455 cm_X13_write rcm rfl rfl (Nat.le_of_ble_eq_true rfl) (by decide) (a' := 0) (b' := 0) ⟨rfl, rfl⟩ dX13_renderTicket_95 (fun s40 => ?_)
      refine T_aload_n (pc := 98) C dX13_renderTicket_98 rfl 1 rfl ?_
      refine T_aload_n (pc := 99) C dX13_renderTicket_99 rfl 1 rfl ?_
      refine T_iload_n (pc := 100) C dX13_renderTicket_100 rfl 0 rfl ?_
      refine T_iconst (pc := 101) C dX13_renderTicket_101 ?_
      refine T_callVip (pc := 102) C [vi v27, vi 4] [.ref (ad 0)] (fun o h9 hw => ct_X13_t s40 v27 4 hv27.1 (rngL rfl) hw o h9) kw_237 cm_X13_t rcm rfl rfl (Nat.le_of_ble_eq_true rfl) (by decide) (a' := 0) (b' := 0) ⟨rfl, rfl⟩ dX13_renderTicket_102 (fun v41 hv41 => ?_)
      refine T_callVv (pc := 105) C [vi v41] [] (fun o h9 hw => ct_X13_writeNumber N s40 v41 hv41.1 hw o h9) kw_458 cm_X13_writeNumber rcm rfl rfl (Nat.le_of_ble_eq_true rfl) (by decide) (a' := 0) (b' := 0) ⟨rfl, rfl⟩ dX13_renderTicket_105 (fun s42 => ?_)
      refine T_aload_n (pc := 108) C dX13_renderTicket_108 rfl 1 rfl ?_
      refine T_bipush (pc := 109) C dX13_renderTicket_109 (by decide) ?_
      refine T_callVv (pc := 111) C [vi 61] [] (fun o h9 hw => ct_X13_write s42 61 (rngL rfl) hw o h9) kw_455 cm_X13_write rcm rfl rfl (Nat.le_of_ble_eq_true rfl) (by decide) (a' := 0) (b' := 0) ⟨rfl, rfl⟩ dX13_renderTicket_111 (fun s43 => ?_)
      refine T_aload_n (pc := 114) C dX13_renderTicket_114 rfl 1 rfl ?_
      refine T_aload_n (pc := 115) C dX13_renderTicket_115 rfl 1 rfl ?_
      refine T_iload_n (pc := 116) C dX13_renderTicket_116 rfl 0 rfl ?_
      refine T_iconst (pc := 117) C dX13_renderTicket_117 ?_
      refine T_callVip (pc := 118) C [vi v27, vi 5] [.ref (ad 0)] (fun o h9 hw => ct_X13_t s43 v27 5 hv27.1 (rngL rfl) hw o h9) kw_237 cm_X13_t rcm rfl rfl (Nat.le_of_ble_eq_true rfl) (by decide) (a' := 0) (b' := 0) ⟨rfl, rfl⟩ dX13_renderTicket_118 (fun v44 hv44 => ?_)
      refine T_callVv (pc := 121) C [vi v44] [] (fun o h9 hw => ct_X13_writeNumber N s43 v44 hv44.1 hw o h9) kw_458 cm_X13_writeNumber rcm rfl rfl (Nat.le_of_ble_eq_true rfl) (by decide) (a' := 0) (b' := 0) ⟨rfl, rfl⟩ dX13_renderTicket_121 (fun s45 => ?_)
      refine T_aload_n (pc := 124) C dX13_renderTicket_124 rfl 1 rfl ?_
      refine Tm_get (pc := 125) C 16 ⟨by decide, by decide⟩ kw_452 dX13_renderTicket_125 (fun r46 => ?_)
      exact T_iret (pc := 128) (s45, (s45 16 0)) (fun h9 => h9) r46 (nar_I _) (by decide) dX13_renderTicket_128
    · refine T_iconst (pc := 20) C dX13_renderTicket_20 ?_
      exact T_iret (pc := 21) (v25.1, 0) (fun h9 => h9) (rngL rfl) (nar_I _) (by decide) dX13_renderTicket_21

abbrev rm_X13_outputAt : Room := ⟨1, 0, 0, 22⟩
theorem cm_X13_outputAt : cmV yX13_outputAt cX13_outputAt 2 (some .char) 1 := ⟨kw_121, kw_145, ⟨by decide +kernel, by decide +kernel, by decide +kernel⟩, kw_463, kw_464⟩
def f_X13_outputAt (σ : Sm) (x1 : Int) : Option (Sm × Int) :=
  if rng ((σ 16 0) - 1) then (f_X13_in x1 0 ((σ 16 0) - 1)).bind fun v3 => (f_X13_checked σ v3).bind fun v4 => (if v4.2 ≤ 0 then if 0 ≤ x1 ∧ x1 < 80 then if 0 ≤ (v4.1 7 x1.toNat) ∧ (v4.1 7 x1.toNat) < 65536 then some (v4.1, (v4.1 7 x1.toNat)) else none else none else some (v4.1, 32)) else none
theorem ct_X13_outputAt {l : Launch} {cy : ClassId} {ad : Nat → Nat} {G : va_G} (σ : Sm) (x1 : Int) (h1 : rng x1) (hw : wfm σ) (o : Sm × Int) (h : f_X13_outputAt σ x1 = some o) : CtI l yX13_outputAt cX13_outputAt 2 (some .char) rm_X13_outputAt (wlm cy ad) wfm G (tym cy) [.ref (ad 0), vi x1] σ o.1 o.2 := by
  refine ctI_of (by decide) (Nat.le_of_ble_eq_true rfl) hw o o h (fun X Y w => EndI X Y cX13_outputAt rm_X13_outputAt .char w) (fun _ _ h => h) (fun X A Q hX C => ?_)
  replace C : Cx X (Ym cy ad G A 2 Q) cX13_outputAt RX13 (some .char) rm_X13_outputAt (tym cy) := C
  show T X (Ym cy ad G A 2 Q) (fun w => EndI X (Ym cy ad G A 2 Q) cX13_outputAt rm_X13_outputAt .char w) 0 0 0 [(0, .ref (ad 0)), (1, vi x1)] [] σ (f_X13_outputAt σ x1)
  unfold f_X13_outputAt
  refine T_aload_n (pc := 0) C dX13_outputAt_0 rfl 0 rfl ?_
  refine T_iload_n (pc := 1) C dX13_outputAt_1 rfl 1 rfl ?_
  refine T_iconst (pc := 2) C dX13_outputAt_2 ?_
  refine T_aload_n (pc := 3) C dX13_outputAt_3 rfl 0 rfl ?_
  refine Tm_get (pc := 4) C 16 ⟨by decide, by decide⟩ kw_452 dX13_outputAt_4 (fun r1 => ?_)
  refine T_iconst (pc := 7) C dX13_outputAt_7 ?_
  refine T_isub (pc := 8) C dX13_outputAt_8 ?_
  refine T_guard (fun g2 => ?_)
  refine T_callSip (pc := 9) C [vi x1, vi 0, vi ((σ 16 0) - 1)] [.ref (ad 0)] (fun o h9 hw => ct_X13_in σ x1 0 ((σ 16 0) - 1) h1 (rngL rfl) g2 hw o h9) kw_161 cm_X13_in rfl rfl (Nat.le_of_ble_eq_true rfl) (by decide) (a' := 0) (b' := 0) ⟨rfl, rfl⟩ dX13_outputAt_9 (fun v3 hv3 => ?_)
  refine T_callVi (pc := 12) C [vi v3] [] (fun o h9 hw => ct_X13_checked σ v3 (bit_of_nar hv3) hw o h9) kw_321 cm_X13_checked rcm rfl rfl (Nat.le_of_ble_eq_true rfl) (by decide) (a' := 0) (b' := 0) ⟨rfl, rfl⟩ dX13_outputAt_12 (fun v4 hv4 => ?_)
  refine T_if_le (pc := 15) C 23 dX13_outputAt_15 rfl hv4.1 (fun c5 => ?_) (fun c5 => ?_)
  · refine T_aload_n (pc := 23) C dX13_outputAt_23 rfl 0 rfl ?_
    refine Tm_getA (pc := 24) C 11 7 (by decide) (fun _ => rfl) kw_451 rfl dX13_outputAt_24 ?_
    refine T_iload_n (pc := 27) C dX13_outputAt_27 rfl 1 rfl ?_
    refine T_guard (fun g6 => ?_)
    refine Tm_iald (pc := 28) C 7 x1.toNat ⟨by decide, by decide⟩ g6 rfl dX13_outputAt_28 (fun r7 => ?_)
    refine T_guard (fun g8 => ?_)
    refine T_i2c (pc := 29) C g8 dX13_outputAt_29 ?_
    exact T_iret (pc := 30) (v4.1, (v4.1 7 x1.toNat)) (fun h9 => h9) r7 (nar_C g8) (by decide) dX13_outputAt_30
  · refine T_bipush (pc := 18) C dX13_outputAt_18 (by decide) ?_
    refine T_goto (pc := 20) C 30 dX13_outputAt_20 rfl ?_
    exact T_iret (pc := 30) (v4.1, 32) (fun h9 => h9) (rngL rfl) (nar_C (by decide)) (by decide) dX13_outputAt_30

abbrev rm_X13_type : Room := ⟨1, 0, 0, 22⟩
theorem cm_X13_type : cmV yX13_type cX13_type 2 (some .int) 1 := ⟨kw_122, kw_145, ⟨by decide +kernel, by decide +kernel, by decide +kernel⟩, kw_467, kw_468⟩
def f_X13_type (σ : Sm) (x1 : Int) : Option (Sm × Int) :=
  (f_X13_in x1 32 126).bind fun v1 => (if v1 = 0 then bl (upm σ 11 0 1) fun s25 => (if (s25 11 0) ≤ 0 then if 0 ≤ (s25 17 0) ∧ (s25 17 0) < 60 then bl (upm s25 8 (s25 17 0).toNat x1) fun s30 => if rng ((s30 17 0) + 1) then bl (upm s30 17 0 ((s30 17 0) + 1)) fun s33 => some (s33, (s33 17 0)) else none else none else some (s25, 0)) else (if (σ 17 0) = 60 then bl (upm σ 11 0 2) fun s15 => (if (s15 11 0) ≤ 0 then if 0 ≤ (s15 17 0) ∧ (s15 17 0) < 60 then bl (upm s15 8 (s15 17 0).toNat x1) fun s20 => if rng ((s20 17 0) + 1) then bl (upm s20 17 0 ((s20 17 0) + 1)) fun s23 => some (s23, (s23 17 0)) else none else none else some (s15, 0)) else bl (upm σ 11 0 0) fun s5 => (if (s5 11 0) ≤ 0 then if 0 ≤ (s5 17 0) ∧ (s5 17 0) < 60 then bl (upm s5 8 (s5 17 0).toNat x1) fun s10 => if rng ((s10 17 0) + 1) then bl (upm s10 17 0 ((s10 17 0) + 1)) fun s13 => some (s13, (s13 17 0)) else none else none else some (s5, 0))))
theorem ct_X13_type {l : Launch} {cy : ClassId} {ad : Nat → Nat} {G : va_G} (σ : Sm) (x1 : Int) (h1 : 0 ≤ x1 ∧ x1 < 65536) (hw : wfm σ) (o : Sm × Int) (h : f_X13_type σ x1 = some o) : CtI l yX13_type cX13_type 2 (some .int) rm_X13_type (wlm cy ad) wfm G (tym cy) [.ref (ad 0), vi x1] σ o.1 o.2 := by
  refine ctI_of (by decide) (Nat.le_of_ble_eq_true rfl) hw o o h (fun X Y w => EndI X Y cX13_type rm_X13_type .int w) (fun _ _ h => h) (fun X A Q hX C => ?_)
  replace C : Cx X (Ym cy ad G A 2 Q) cX13_type RX13 (some .int) rm_X13_type (tym cy) := C
  show T X (Ym cy ad G A 2 Q) (fun w => EndI X (Ym cy ad G A 2 Q) cX13_type rm_X13_type .int w) 0 0 0 [(0, .ref (ad 0)), (1, vi x1)] [] σ (f_X13_type σ x1)
  unfold f_X13_type
  refine T_aload_n (pc := 0) C dX13_type_0 rfl 0 rfl ?_
  refine T_iload_n (pc := 1) C dX13_type_1 rfl 1 rfl ?_
  refine T_bipush (pc := 2) C dX13_type_2 (by decide) ?_
  refine T_bipush (pc := 4) C dX13_type_4 (by decide) ?_
  refine T_callSip (pc := 6) C [vi x1, vi 32, vi 126] [.ref (ad 0)] (fun o h9 hw => ct_X13_in σ x1 32 126 (chr_rng h1) (rngL rfl) (rngL rfl) hw o h9) kw_161 cm_X13_in rfl rfl (Nat.le_of_ble_eq_true rfl) (by decide) (a' := 0) (b' := 0) ⟨rfl, rfl⟩ dX13_type_6 (fun v1 hv1 => ?_)
  refine T_if_ne (pc := 9) C 16 dX13_type_9 rfl hv1.1 (fun c2 => ?_) (fun c2 => ?_)
  · refine T_aload_n (pc := 16) C dX13_type_16 rfl 0 rfl ?_
    refine Tm_get (pc := 17) C 17 ⟨by decide, by decide⟩ kw_465 dX13_type_17 (fun r3 => ?_)
    refine T_bipush (pc := 20) C dX13_type_20 (by decide) ?_
    refine T_icmp_ne (pc := 22) C 29 dX13_type_22 rfl r3 (rngL rfl) (fun c4 => ?_) (fun c4 => ?_)
    · refine T_iconst (pc := 29) C dX13_type_29 ?_
      refine Tm_put (pc := 30) C (ty := .int) 11 ⟨by decide, by decide⟩ (rngL rfl) kw_144 rfl (nar_I _) (fit_I _) dX13_type_30 ?_
      refine T_blS (fun s5 => ?_)
      refine T_aload_n (pc := 33) C dX13_type_33 rfl 0 rfl ?_
      refine Tm_get (pc := 34) C 11 ⟨by decide, by decide⟩ kw_144 dX13_type_34 (fun r6 => ?_)
      refine T_if_le (pc := 37) C 42 dX13_type_37 rfl r6 (fun c7 => ?_) (fun c7 => ?_)
      · refine T_aload_n (pc := 42) C dX13_type_42 rfl 0 rfl ?_
        refine Tm_getA (pc := 43) C 13 8 (by decide) (fun _ => rfl) kw_466 rfl dX13_type_43 ?_
        refine T_aload_n (pc := 46) C dX13_type_46 rfl 0 rfl ?_
        refine Tm_get (pc := 47) C 17 ⟨by decide, by decide⟩ kw_465 dX13_type_47 (fun r8 => ?_)
        refine T_iload_n (pc := 50) C dX13_type_50 rfl 1 rfl ?_
        refine T_guard (fun g9 => ?_)
        refine Tm_iast (pc := 51) C 8 (s5 17 0).toNat ⟨by decide, by decide⟩ g9 rfl (chr_rng h1) dX13_type_51 ?_
        refine T_blS (fun s10 => ?_)
        refine T_aload_n (pc := 52) C dX13_type_52 rfl 0 rfl ?_
        refine T_dup (pc := 53) C dX13_type_53 rfl ?_
        refine Tm_get (pc := 54) C 17 ⟨by decide, by decide⟩ kw_465 dX13_type_54 (fun r11 => ?_)
        refine T_iconst (pc := 57) C dX13_type_57 ?_
        refine T_iadd (pc := 58) C dX13_type_58 ?_
        refine T_guard (fun g12 => ?_)
        refine Tm_put (pc := 59) C (ty := .int) 17 ⟨by decide, by decide⟩ g12 kw_465 rfl (nar_I _) (fit_I _) dX13_type_59 ?_
        refine T_blS (fun s13 => ?_)
        refine T_aload_n (pc := 62) C dX13_type_62 rfl 0 rfl ?_
        refine Tm_get (pc := 63) C 17 ⟨by decide, by decide⟩ kw_465 dX13_type_63 (fun r14 => ?_)
        exact T_iret (pc := 66) (s13, (s13 17 0)) (fun h9 => h9) r14 (nar_I _) (by decide) dX13_type_66
      · refine T_iconst (pc := 40) C dX13_type_40 ?_
        exact T_iret (pc := 41) (s5, 0) (fun h9 => h9) (rngL rfl) (nar_I _) (by decide) dX13_type_41
    · refine T_iconst (pc := 25) C dX13_type_25 ?_
      refine T_goto (pc := 26) C 30 dX13_type_26 rfl ?_
      refine Tm_put (pc := 30) C (ty := .int) 11 ⟨by decide, by decide⟩ (rngL rfl) kw_144 rfl (nar_I _) (fit_I _) dX13_type_30 ?_
      refine T_blS (fun s15 => ?_)
      refine T_aload_n (pc := 33) C dX13_type_33 rfl 0 rfl ?_
      refine Tm_get (pc := 34) C 11 ⟨by decide, by decide⟩ kw_144 dX13_type_34 (fun r16 => ?_)
      refine T_if_le (pc := 37) C 42 dX13_type_37 rfl r16 (fun c17 => ?_) (fun c17 => ?_)
      · refine T_aload_n (pc := 42) C dX13_type_42 rfl 0 rfl ?_
        refine Tm_getA (pc := 43) C 13 8 (by decide) (fun _ => rfl) kw_466 rfl dX13_type_43 ?_
        refine T_aload_n (pc := 46) C dX13_type_46 rfl 0 rfl ?_
        refine Tm_get (pc := 47) C 17 ⟨by decide, by decide⟩ kw_465 dX13_type_47 (fun r18 => ?_)
        refine T_iload_n (pc := 50) C dX13_type_50 rfl 1 rfl ?_
        refine T_guard (fun g19 => ?_)
        refine Tm_iast (pc := 51) C 8 (s15 17 0).toNat ⟨by decide, by decide⟩ g19 rfl (chr_rng h1) dX13_type_51 ?_
        refine T_blS (fun s20 => ?_)
        refine T_aload_n (pc := 52) C dX13_type_52 rfl 0 rfl ?_
        refine T_dup (pc := 53) C dX13_type_53 rfl ?_
        refine Tm_get (pc := 54) C 17 ⟨by decide, by decide⟩ kw_465 dX13_type_54 (fun r21 => ?_)
        refine T_iconst (pc := 57) C dX13_type_57 ?_
        refine T_iadd (pc := 58) C dX13_type_58 ?_
        refine T_guard (fun g22 => ?_)
        refine Tm_put (pc := 59) C (ty := .int) 17 ⟨by decide, by decide⟩ g22 kw_465 rfl (nar_I _) (fit_I _) dX13_type_59 ?_
        refine T_blS (fun s23 => ?_)
        refine T_aload_n (pc := 62) C dX13_type_62 rfl 0 rfl ?_
        refine Tm_get (pc := 63) C 17 ⟨by decide, by decide⟩ kw_465 dX13_type_63 (fun r24 => ?_)
        exact T_iret (pc := 66) (s23, (s23 17 0)) (fun h9 => h9) r24 (nar_I _) (by decide) dX13_type_66
      · refine T_iconst (pc := 40) C dX13_type_40 ?_
        exact T_iret (pc := 41) (s15, 0) (fun h9 => h9) (rngL rfl) (nar_I _) (by decide) dX13_type_41
  · refine T_iconst (pc := 12) C dX13_type_12 ?_
    refine T_goto (pc := 13) C 30 dX13_type_13 rfl ?_
    refine Tm_put (pc := 30) C (ty := .int) 11 ⟨by decide, by decide⟩ (rngL rfl) kw_144 rfl (nar_I _) (fit_I _) dX13_type_30 ?_
    refine T_blS (fun s25 => ?_)
    refine T_aload_n (pc := 33) C dX13_type_33 rfl 0 rfl ?_
    refine Tm_get (pc := 34) C 11 ⟨by decide, by decide⟩ kw_144 dX13_type_34 (fun r26 => ?_)
    refine T_if_le (pc := 37) C 42 dX13_type_37 rfl r26 (fun c27 => ?_) (fun c27 => ?_)
    · refine T_aload_n (pc := 42) C dX13_type_42 rfl 0 rfl ?_
      refine Tm_getA (pc := 43) C 13 8 (by decide) (fun _ => rfl) kw_466 rfl dX13_type_43 ?_
      refine T_aload_n (pc := 46) C dX13_type_46 rfl 0 rfl ?_
      refine Tm_get (pc := 47) C 17 ⟨by decide, by decide⟩ kw_465 dX13_type_47 (fun r28 => ?_)
      refine T_iload_n (pc := 50) C dX13_type_50 rfl 1 rfl ?_
      refine T_guard (fun g29 => ?_)
      refine Tm_iast (pc := 51) C 8 (s25 17 0).toNat ⟨by decide, by decide⟩ g29 rfl (chr_rng h1) dX13_type_51 ?_
      refine T_blS (fun s30 => ?_)
      refine T_aload_n (pc := 52) C dX13_type_52 rfl 0 rfl ?_
      refine T_dup (pc := 53) C dX13_type_53 rfl ?_
      refine Tm_get (pc := 54) C 17 ⟨by decide, by decide⟩ kw_465 dX13_type_54 (fun r31 => ?_)
      refine T_iconst (pc := 57) C dX13_type_57 ?_
      refine T_iadd (pc := 58) C dX13_type_58 ?_
      refine T_guard (fun g32 => ?_)
      refine Tm_put (pc := 59) C (ty := .int) 17 ⟨by decide, by decide⟩ g32 kw_465 rfl (nar_I _) (fit_I _) dX13_type_59 ?_
      refine T_blS (fun s33 => ?_)
      refine T_aload_n (pc := 62) C dX13_type_62 rfl 0 rfl ?_
      refine Tm_get (pc := 63) C 17 ⟨by decide, by decide⟩ kw_465 dX13_type_63 (fun r34 => ?_)
      exact T_iret (pc := 66) (s33, (s33 17 0)) (fun h9 => h9) r34 (nar_I _) (by decide) dX13_type_66
    · refine T_iconst (pc := 40) C dX13_type_40 ?_
      exact T_iret (pc := 41) (s25, 0) (fun h9 => h9) (rngL rfl) (nar_I _) (by decide) dX13_type_41

abbrev rm_X13_mark : Room := ⟨0, 0, 0, 0⟩
theorem cm_X13_mark : cmV yX13_mark cX13_mark 1 (some .int) 0 := ⟨kw_123, kw_145, ⟨by decide +kernel, by decide +kernel, by decide +kernel⟩, kw_472, kw_473⟩
def f_X13_mark (σ : Sm) : Option Int :=
  (if (σ 21 0) = 0 then (if (σ 18 0) ≤ (σ 19 0) then some (-1) else if 0 ≤ (σ 19 0) ∧ (σ 19 0) < 60 then some (σ 8 (σ 19 0).toNat) else none) else some (-1))
theorem ct_X13_mark {l : Launch} {cy : ClassId} {ad : Nat → Nat} {G : va_G} (σ : Sm) (hw : wfm σ) (o : Int) (h : f_X13_mark σ = some o) : CtI l yX13_mark cX13_mark 1 (some .int) rm_X13_mark (wlm cy ad) wfm G (tym cy) [.ref (ad 0)] σ σ o := by
  refine ctI_of (by decide) (Nat.le_of_ble_eq_true rfl) hw (σ, o) o h (fun X Y v => EndI X Y cX13_mark rm_X13_mark .int (σ, v)) (fun _ _ h => h) (fun X A Q hX C => ?_)
  replace C : Cx X (Ym cy ad G A 1 Q) cX13_mark RX13 (some .int) rm_X13_mark (tym cy) := C
  show T X (Ym cy ad G A 1 Q) (fun v => EndI X (Ym cy ad G A 1 Q) cX13_mark rm_X13_mark .int (σ, v)) 0 0 0 [(0, .ref (ad 0))] [] σ (f_X13_mark σ)
  unfold f_X13_mark
  refine T_aload_n (pc := 0) C dX13_mark_0 rfl 0 rfl ?_
  refine Tm_get (pc := 1) C 21 ⟨by decide, by decide⟩ kw_469 dX13_mark_1 (fun r1 => ?_)
  refine T_if_ne (pc := 4) C 30 dX13_mark_4 rfl r1 (fun c2 => ?_) (fun c2 => ?_)
  · refine T_iconst (pc := 30) C dX13_mark_30 ?_
    exact T_iret (pc := 31) (-1) (fun h9 => h9) (rngL rfl) (nar_I _) (by decide) dX13_mark_31
  · refine T_aload_n (pc := 7) C dX13_mark_7 rfl 0 rfl ?_
    refine Tm_get (pc := 8) C 19 ⟨by decide, by decide⟩ kw_470 dX13_mark_8 (fun r3 => ?_)
    refine T_aload_n (pc := 11) C dX13_mark_11 rfl 0 rfl ?_
    refine Tm_get (pc := 12) C 18 ⟨by decide, by decide⟩ kw_471 dX13_mark_12 (fun r4 => ?_)
    refine T_icmp_ge (pc := 15) C 30 dX13_mark_15 rfl r3 r4 (fun c5 => ?_) (fun c5 => ?_)
    · refine T_iconst (pc := 30) C dX13_mark_30 ?_
      exact T_iret (pc := 31) (-1) (fun h9 => h9) (rngL rfl) (nar_I _) (by decide) dX13_mark_31
    · refine T_aload_n (pc := 18) C dX13_mark_18 rfl 0 rfl ?_
      refine Tm_getA (pc := 19) C 13 8 (by decide) (fun _ => rfl) kw_466 rfl dX13_mark_19 ?_
      refine T_aload_n (pc := 22) C dX13_mark_22 rfl 0 rfl ?_
      refine Tm_get (pc := 23) C 19 ⟨by decide, by decide⟩ kw_470 dX13_mark_23 (fun r6 => ?_)
      refine T_guard (fun g7 => ?_)
      refine Tm_iald (pc := 26) C 8 (σ 19 0).toNat ⟨by decide, by decide⟩ g7 rfl dX13_mark_26 (fun r8 => ?_)
      refine T_goto (pc := 27) C 31 dX13_mark_27 rfl ?_
      exact T_iret (pc := 31) (σ 8 (σ 19 0).toNat) (fun h9 => h9) r8 (nar_I _) (by decide) dX13_mark_31

abbrev rm_X13_expect : Room := ⟨1, 0, 0, 20⟩
theorem cm_X13_expect : cmV yX13_expect cX13_expect 2 none 1 := ⟨kw_124, kw_145, ⟨by decide +kernel, by decide +kernel, by decide +kernel⟩, kw_475, kw_476⟩
def f_X13_expect (σ : Sm) (x1 : Int) : Option Sm :=
  (f_X13_mark σ).bind fun v2 => (if v2 = x1 then if 0 ≤ (σ 21 0) then if bit (ior (σ 21 0) 0) then bl (upm σ 21 0 (ior (σ 21 0) 0)) fun s6 => (if (s6 21 0) = 0 then if rng ((s6 19 0) + 1) then bl (upm s6 19 0 ((s6 19 0) + 1)) fun s11 => some s11 else none else if rng ((s6 19 0) + 0) then bl (upm s6 19 0 ((s6 19 0) + 0)) fun s13 => some s13 else none) else none else none else if 0 ≤ (σ 21 0) then if bit (ior (σ 21 0) 1) then bl (upm σ 21 0 (ior (σ 21 0) 1)) fun s16 => (if (s16 21 0) = 0 then if rng ((s16 19 0) + 1) then bl (upm s16 19 0 ((s16 19 0) + 1)) fun s21 => some s21 else none else if rng ((s16 19 0) + 0) then bl (upm s16 19 0 ((s16 19 0) + 0)) fun s23 => some s23 else none) else none else none)
theorem ct_X13_expect {l : Launch} {cy : ClassId} {ad : Nat → Nat} {G : va_G} (σ : Sm) (x1 : Int) (h1 : rng x1) (hw : wfm σ) (o : Sm) (h : f_X13_expect σ x1 = some o) : CtV l yX13_expect cX13_expect 2 rm_X13_expect (wlm cy ad) wfm G (tym cy) [.ref (ad 0), vi x1] σ o := by
  refine ctV_of (by decide) (Nat.le_of_ble_eq_true rfl) hw o o h (fun X Y w => EndV X Y cX13_expect rm_X13_expect w) (fun _ _ h => h) (fun X A Q hX C => ?_)
  replace C : Cx X (Ym cy ad G A 2 Q) cX13_expect RX13 none rm_X13_expect (tym cy) := C
  show T X (Ym cy ad G A 2 Q) (fun w => EndV X (Ym cy ad G A 2 Q) cX13_expect rm_X13_expect w) 0 0 0 [(0, .ref (ad 0)), (1, vi x1)] [] σ (f_X13_expect σ x1)
  unfold f_X13_expect
  refine T_aload_n (pc := 0) C dX13_expect_0 rfl 0 rfl ?_
  refine T_dup (pc := 1) C dX13_expect_1 rfl ?_
  refine Tm_get (pc := 2) C 21 ⟨by decide, by decide⟩ kw_469 dX13_expect_2 (fun r1 => ?_)
  refine T_aload_n (pc := 5) C dX13_expect_5 rfl 0 rfl ?_
  refine T_callVip (pc := 6) C [] [vi (σ 21 0), .ref (ad 0)] (fun o h9 hw => ct_X13_mark σ hw o h9) kw_474 cm_X13_mark rcm rfl rfl (Nat.le_of_ble_eq_true rfl) (by decide) (a' := 0) (b' := 0) ⟨rfl, rfl⟩ dX13_expect_6 (fun v2 hv2 => ?_)
  refine T_iload_n (pc := 9) C dX13_expect_9 rfl 1 rfl ?_
  refine T_icmp_eq (pc := 10) C 17 dX13_expect_10 rfl hv2.1 h1 (fun c3 => ?_) (fun c3 => ?_)
  · refine T_iconst (pc := 17) C dX13_expect_17 ?_
    refine T_guard (fun g4 => ?_)
    refine T_ior (pc := 18) C g4 (by decide) dX13_expect_18 ?_
    refine T_guard (fun g5 => ?_)
    refine Tm_put (pc := 19) C (ty := .boolean) 21 ⟨by decide, by decide⟩ (ior_rng r1 (rngL rfl) g4 (by decide)) kw_469 rfl (nar_Z g5) (fit_Z g5) dX13_expect_19 ?_
    refine T_blS (fun s6 => ?_)
    refine T_aload_n (pc := 22) C dX13_expect_22 rfl 0 rfl ?_
    refine T_dup (pc := 23) C dX13_expect_23 rfl ?_
    refine Tm_get (pc := 24) C 19 ⟨by decide, by decide⟩ kw_470 dX13_expect_24 (fun r7 => ?_)
    refine T_aload_n (pc := 27) C dX13_expect_27 rfl 0 rfl ?_
    refine Tm_get (pc := 28) C 21 ⟨by decide, by decide⟩ kw_469 dX13_expect_28 (fun r8 => ?_)
    refine T_if_eq (pc := 31) C 38 dX13_expect_31 rfl r8 (fun c9 => ?_) (fun c9 => ?_)
    · refine T_iconst (pc := 38) C dX13_expect_38 ?_
      refine T_iadd (pc := 39) C dX13_expect_39 ?_
      refine T_guard (fun g10 => ?_)
      refine Tm_put (pc := 40) C (ty := .int) 19 ⟨by decide, by decide⟩ g10 kw_470 rfl (nar_I _) (fit_I _) dX13_expect_40 ?_
      refine T_blS (fun s11 => ?_)
      exact T_vret (pc := 43) s11 (fun h9 => h9) (by decide) dX13_expect_43
    · refine T_iconst (pc := 34) C dX13_expect_34 ?_
      refine T_goto (pc := 35) C 39 dX13_expect_35 rfl ?_
      refine T_iadd (pc := 39) C dX13_expect_39 ?_
      refine T_guard (fun g12 => ?_)
      refine Tm_put (pc := 40) C (ty := .int) 19 ⟨by decide, by decide⟩ g12 kw_470 rfl (nar_I _) (fit_I _) dX13_expect_40 ?_
      refine T_blS (fun s13 => ?_)
      exact T_vret (pc := 43) s13 (fun h9 => h9) (by decide) dX13_expect_43
  · refine T_iconst (pc := 13) C dX13_expect_13 ?_
    refine T_goto (pc := 14) C 18 dX13_expect_14 rfl ?_
    refine T_guard (fun g14 => ?_)
    refine T_ior (pc := 18) C g14 (by decide) dX13_expect_18 ?_
    refine T_guard (fun g15 => ?_)
    refine Tm_put (pc := 19) C (ty := .boolean) 21 ⟨by decide, by decide⟩ (ior_rng r1 (rngL rfl) g14 (by decide)) kw_469 rfl (nar_Z g15) (fit_Z g15) dX13_expect_19 ?_
    refine T_blS (fun s16 => ?_)
    refine T_aload_n (pc := 22) C dX13_expect_22 rfl 0 rfl ?_
    refine T_dup (pc := 23) C dX13_expect_23 rfl ?_
    refine Tm_get (pc := 24) C 19 ⟨by decide, by decide⟩ kw_470 dX13_expect_24 (fun r17 => ?_)
    refine T_aload_n (pc := 27) C dX13_expect_27 rfl 0 rfl ?_
    refine Tm_get (pc := 28) C 21 ⟨by decide, by decide⟩ kw_469 dX13_expect_28 (fun r18 => ?_)
    refine T_if_eq (pc := 31) C 38 dX13_expect_31 rfl r18 (fun c19 => ?_) (fun c19 => ?_)
    · refine T_iconst (pc := 38) C dX13_expect_38 ?_
      refine T_iadd (pc := 39) C dX13_expect_39 ?_
      refine T_guard (fun g20 => ?_)
      refine Tm_put (pc := 40) C (ty := .int) 19 ⟨by decide, by decide⟩ g20 kw_470 rfl (nar_I _) (fit_I _) dX13_expect_40 ?_
      refine T_blS (fun s21 => ?_)
      exact T_vret (pc := 43) s21 (fun h9 => h9) (by decide) dX13_expect_43
    · refine T_iconst (pc := 34) C dX13_expect_34 ?_
      refine T_goto (pc := 35) C 39 dX13_expect_35 rfl ?_
      refine T_iadd (pc := 39) C dX13_expect_39 ?_
      refine T_guard (fun g22 => ?_)
      refine Tm_put (pc := 40) C (ty := .int) 19 ⟨by decide, by decide⟩ g22 kw_470 rfl (nar_I _) (fit_I _) dX13_expect_40 ?_
      refine T_blS (fun s23 => ?_)
      exact T_vret (pc := 43) s23 (fun h9 => h9) (by decide) dX13_expect_43

abbrev rm_X13_number : Room := ⟨1, 0, 0, 22⟩
theorem cm_X13_number : cmV yX13_number cX13_number 4 (some .int) 1 := ⟨kw_125, kw_145, ⟨by decide +kernel, by decide +kernel, by decide +kernel⟩, kw_477, kw_478⟩
def f_X13_number_32 (x1 : Int) : Nat → Sm → Int → Int → Option (Sm × Int)
  | 0, _, _, _ => none
  | n + 1, s0, x2, x3 => (if x1 ≤ x3 then some (s0, x2) else (f_X13_mark s0).bind fun v33 => (f_X13_in v33 48 57).bind fun v34 => (if v34 = 0 then some (s0, x2) else if 0 ≤ (s0 19 0) ∧ (s0 19 0) < 60 then bl (((10 * x2) + (s0 8 (s0 19 0).toNat)) - 48) fun v39 => if rng ((s0 19 0) + 1) then bl (upm s0 19 0 ((s0 19 0) + 1)) fun s42 => if rng v39 then f_X13_number_32 x1 n s42 v39 (x3 + 1) else none else none else none))
theorem lp_X13_number_32 {X : vjX} {A : Nat → Prop} {Q : State → Prop} {cy : ClassId} {ad : Nat → Nat} {G : va_G} (C : Cx X (Ym cy ad G A 4 Q) cX13_number RX13 (some .int) rm_X13_number (tym cy)) (x1 : Int) (h1 : rng x1) : ∀ (n : Nat) (s0 : Sm) (x2 : Int) (x3 : Int) (h2 : rng x2) (h3 : rng x3), T X (Ym cy ad G A 4 Q) (fun (q : Sm × Int) => rng q.2 → J X (Ym cy ad G A 4 Q) 0 0 85 [(2, vi q.2)] [] q.1) 0 0 32 [(0, .ref (ad 0)), (1, vi x1), (2, vi x2), (3, vi x3)] [] s0 (f_X13_number_32 x1 n s0 x2 x3) := by
  intro n
  induction n with
  | zero => intro s0 x2 x3 h2 h3; exact T_none
  | succ n ih =>
    intro s0 x2 x3 h2 h3
    rw [f_X13_number_32]
    refine T_iload_n (pc := 32) C dX13_number_32 rfl 3 rfl ?_
    refine T_iload_n (pc := 33) C dX13_number_33 rfl 1 rfl ?_
    refine T_icmp_ge (pc := 34) C 85 dX13_number_34 rfl h3 h1 (fun c32 => ?_) (fun c32 => ?_)
    · refine T_sub (L' := [(2, vi x2)]) [2] rfl ?_
      exact T_exit (fun h9 => h9 h2)
    · refine T_aload_n (pc := 37) C dX13_number_37 rfl 0 rfl ?_
      refine T_callVip (pc := 38) C [] [] (fun o h9 hw => ct_X13_mark s0 hw o h9) kw_474 cm_X13_mark rcm rfl rfl (Nat.le_of_ble_eq_true rfl) (by decide) (a' := 0) (b' := 0) ⟨rfl, rfl⟩ dX13_number_38 (fun v33 hv33 => ?_)
      refine T_bipush (pc := 41) C dX13_number_41 (by decide) ?_
      refine T_bipush (pc := 43) C dX13_number_43 (by decide) ?_
      refine T_callSip (pc := 45) C [vi v33, vi 48, vi 57] [] (fun o h9 hw => ct_X13_in s0 v33 48 57 hv33.1 (rngL rfl) (rngL rfl) hw o h9) kw_161 cm_X13_in rfl rfl (Nat.le_of_ble_eq_true rfl) (by decide) (a' := 0) (b' := 0) ⟨rfl, rfl⟩ dX13_number_45 (fun v34 hv34 => ?_)
      refine T_if_eq (pc := 48) C 85 dX13_number_48 rfl hv34.1 (fun c35 => ?_) (fun c35 => ?_)
      · refine T_sub (L' := [(2, vi x2)]) [2] rfl ?_
        exact T_exit (fun h9 => h9 h2)
      · refine T_bipush (pc := 51) C dX13_number_51 (by decide) ?_
        refine T_iload_n (pc := 53) C dX13_number_53 rfl 2 rfl ?_
        refine T_imul (pc := 54) C dX13_number_54 ?_
        refine T_aload_n (pc := 55) C dX13_number_55 rfl 0 rfl ?_
        refine Tm_getA (pc := 56) C 13 8 (by decide) (fun _ => rfl) kw_466 rfl dX13_number_56 ?_
        refine T_aload_n (pc := 59) C dX13_number_59 rfl 0 rfl ?_
        refine Tm_get (pc := 60) C 19 ⟨by decide, by decide⟩ kw_470 dX13_number_60 (fun r36 => ?_)
        refine T_guard (fun g37 => ?_)
        refine Tm_iald (pc := 63) C 8 (s0 19 0).toNat ⟨by decide, by decide⟩ g37 rfl dX13_number_63 (fun r38 => ?_)
        refine T_iadd (pc := 64) C dX13_number_64 ?_
        refine T_bipush (pc := 65) C dX13_number_65 (by decide) ?_
        refine T_isub (pc := 67) C dX13_number_67 ?_
        refine T_blN (fun v39 => ?_)
        refine T_istore_n (pc := 68) (L' := [(2, vi v39), (0, .ref (ad 0)), (1, vi x1), (3, vi x3)]) C dX13_number_68 rfl (Nat.le_of_ble_eq_true rfl) rfl ?_
        refine T_aload_n (pc := 69) C dX13_number_69 rfl 1 rfl ?_
        refine T_dup (pc := 70) C dX13_number_70 rfl ?_
        refine Tm_get (pc := 71) C 19 ⟨by decide, by decide⟩ kw_470 dX13_number_71 (fun r40 => ?_)
        refine T_iconst (pc := 74) C dX13_number_74 ?_
        refine T_iadd (pc := 75) C dX13_number_75 ?_
        refine T_guard (fun g41 => ?_)
        refine Tm_put (pc := 76) C (ty := .int) 19 ⟨by decide, by decide⟩ g41 kw_470 rfl (nar_I _) (fit_I _) dX13_number_76 ?_
        refine T_blS (fun s42 => ?_)
        refine T_iinc (pc := 79) (L' := [(3, vi (x3 + 1)), (2, vi v39), (0, .ref (ad 0)), (1, vi x1)]) C dX13_number_79 (Nat.le_of_ble_eq_true rfl) 3 rfl rfl ?_
        refine T_goto (pc := 82) C 32 dX13_number_82 rfl ?_
        refine T_sub (L' := [(0, .ref (ad 0)), (1, vi x1), (2, vi v39), (3, vi (x3 + 1))]) [2, 3, 1, 0] rfl ?_
        refine T_guard (fun g43 => ?_)
        exact ih s42 v39 (x3 + 1) g43 (rng_inc c32 h3 h1)
def f_X13_number (N : Nat) (σ : Sm) (x1 : Int) : Option (Sm × Int) :=
  (f_X13_mark σ).bind fun v2 => (f_X13_in v2 48 57).bind fun v3 => (if v3 = 0 then if 0 ≤ (σ 21 0) then if bit (ior (σ 21 0) 1) then bl (upm σ 21 0 (ior (σ 21 0) 1)) fun s47 => (f_X13_number_32 x1 N s47 0 0).bind fun q48 => some (q48.1, q48.2) else none else none else if 0 ≤ (σ 21 0) then if bit (ior (σ 21 0) 0) then bl (upm σ 21 0 (ior (σ 21 0) 0)) fun s7 => (f_X13_number_32 x1 N s7 0 0).bind fun q44 => some (q44.1, q44.2) else none else none)
theorem ct_X13_number {l : Launch} {cy : ClassId} {ad : Nat → Nat} {G : va_G} (N : Nat) (σ : Sm) (x1 : Int) (h1 : rng x1) (hw : wfm σ) (o : Sm × Int) (h : f_X13_number N σ x1 = some o) : CtI l yX13_number cX13_number 4 (some .int) rm_X13_number (wlm cy ad) wfm G (tym cy) [.ref (ad 0), vi x1] σ o.1 o.2 := by
  refine ctI_of (by decide) (Nat.le_of_ble_eq_true rfl) hw o o h (fun X Y w => EndI X Y cX13_number rm_X13_number .int w) (fun _ _ h => h) (fun X A Q hX C => ?_)
  replace C : Cx X (Ym cy ad G A 4 Q) cX13_number RX13 (some .int) rm_X13_number (tym cy) := C
  show T X (Ym cy ad G A 4 Q) (fun w => EndI X (Ym cy ad G A 4 Q) cX13_number rm_X13_number .int w) 0 0 0 [(0, .ref (ad 0)), (1, vi x1)] [] σ (f_X13_number N σ x1)
  unfold f_X13_number
  refine T_aload_n (pc := 0) C dX13_number_0 rfl 0 rfl ?_
  refine T_dup (pc := 1) C dX13_number_1 rfl ?_
  refine Tm_get (pc := 2) C 21 ⟨by decide, by decide⟩ kw_469 dX13_number_2 (fun r1 => ?_)
  refine T_aload_n (pc := 5) C dX13_number_5 rfl 0 rfl ?_
  refine T_callVip (pc := 6) C [] [vi (σ 21 0), .ref (ad 0)] (fun o h9 hw => ct_X13_mark σ hw o h9) kw_474 cm_X13_mark rcm rfl rfl (Nat.le_of_ble_eq_true rfl) (by decide) (a' := 0) (b' := 0) ⟨rfl, rfl⟩ dX13_number_6 (fun v2 hv2 => ?_)
  refine T_bipush (pc := 9) C dX13_number_9 (by decide) ?_
  refine T_bipush (pc := 11) C dX13_number_11 (by decide) ?_
  refine T_callSip (pc := 13) C [vi v2, vi 48, vi 57] [vi (σ 21 0), .ref (ad 0)] (fun o h9 hw => ct_X13_in σ v2 48 57 hv2.1 (rngL rfl) (rngL rfl) hw o h9) kw_161 cm_X13_in rfl rfl (Nat.le_of_ble_eq_true rfl) (by decide) (a' := 0) (b' := 0) ⟨rfl, rfl⟩ dX13_number_13 (fun v3 hv3 => ?_)
  refine T_if_ne (pc := 16) C 23 dX13_number_16 rfl hv3.1 (fun c4 => ?_) (fun c4 => ?_)
  · refine T_iconst (pc := 23) C dX13_number_23 ?_
    refine T_guard (fun g5 => ?_)
    refine T_ior (pc := 24) C g5 (by decide) dX13_number_24 ?_
    refine T_guard (fun g6 => ?_)
    refine Tm_put (pc := 25) C (ty := .boolean) 21 ⟨by decide, by decide⟩ (ior_rng r1 (rngL rfl) g5 (by decide)) kw_469 rfl (nar_Z g6) (fit_Z g6) dX13_number_25 ?_
    refine T_blS (fun s7 => ?_)
    refine T_iconst (pc := 28) C dX13_number_28 ?_
    refine T_istore_n (pc := 29) (L' := [(2, vi 0), (0, .ref (ad 0)), (1, vi x1)]) C dX13_number_29 rfl (Nat.le_of_ble_eq_true rfl) rfl ?_
    refine T_iconst (pc := 30) C dX13_number_30 ?_
    refine T_istore_n (pc := 31) (L' := [(3, vi 0), (2, vi 0), (0, .ref (ad 0)), (1, vi x1)]) C dX13_number_31 rfl (Nat.le_of_ble_eq_true rfl) rfl ?_
    refine T_sub (L' := [(0, .ref (ad 0)), (1, vi x1), (2, vi 0), (3, vi 0)]) [2, 3, 1, 0] rfl ?_
    refine T_loopE (lp_X13_number_32 C x1 h1 N s7 0 0 (rngL rfl) (rngL rfl)) (fun q44 hq44 => ?_)
    refine T_iload_n (pc := 85) C dX13_number_85 rfl 0 rfl ?_
    exact T_iret (pc := 86) (q44.1, q44.2) (fun h9 => h9) hq44 (nar_I _) (by decide) dX13_number_86
  · refine T_iconst (pc := 19) C dX13_number_19 ?_
    refine T_goto (pc := 20) C 24 dX13_number_20 rfl ?_
    refine T_guard (fun g45 => ?_)
    refine T_ior (pc := 24) C g45 (by decide) dX13_number_24 ?_
    refine T_guard (fun g46 => ?_)
    refine Tm_put (pc := 25) C (ty := .boolean) 21 ⟨by decide, by decide⟩ (ior_rng r1 (rngL rfl) g45 (by decide)) kw_469 rfl (nar_Z g46) (fit_Z g46) dX13_number_25 ?_
    refine T_blS (fun s47 => ?_)
    refine T_iconst (pc := 28) C dX13_number_28 ?_
    refine T_istore_n (pc := 29) (L' := [(2, vi 0), (0, .ref (ad 0)), (1, vi x1)]) C dX13_number_29 rfl (Nat.le_of_ble_eq_true rfl) rfl ?_
    refine T_iconst (pc := 30) C dX13_number_30 ?_
    refine T_istore_n (pc := 31) (L' := [(3, vi 0), (2, vi 0), (0, .ref (ad 0)), (1, vi x1)]) C dX13_number_31 rfl (Nat.le_of_ble_eq_true rfl) rfl ?_
    refine T_sub (L' := [(0, .ref (ad 0)), (1, vi x1), (2, vi 0), (3, vi 0)]) [2, 3, 1, 0] rfl ?_
    refine T_loopE (lp_X13_number_32 C x1 h1 N s47 0 0 (rngL rfl) (rngL rfl)) (fun q48 hq48 => ?_)
    refine T_iload_n (pc := 85) C dX13_number_85 rfl 0 rfl ?_
    exact T_iret (pc := 86) (q48.1, q48.2) (fun h9 => h9) hq48 (nar_I _) (by decide) dX13_number_86

abbrev rm_X13_pick : Room := ⟨0, 0, 0, 0⟩
theorem cm_X13_pick : cmS yX13_pick cX13_pick 7 (some .int) 7 := ⟨kw_126, kw_145, ⟨by decide +kernel, by decide +kernel, by decide +kernel⟩, kw_479⟩
def f_X13_pick (x0 : Int) (x1 : Int) (x2 : Int) (x3 : Int) (x4 : Int) (x5 : Int) (x6 : Int) : Option Int :=
  (if x0 = 0 then some x1 else (if x0 = 1 then some x2 else (if x0 = 2 then some x3 else (if x0 = 3 then some x4 else (if x0 = 4 then some x5 else (if x0 = 5 then some x6 else some 0))))))
theorem ct_X13_pick {l : Launch} {cy : ClassId} {ad : Nat → Nat} {G : va_G} (σ : Sm) (x0 : Int) (x1 : Int) (x2 : Int) (x3 : Int) (x4 : Int) (x5 : Int) (x6 : Int) (h0 : rng x0) (h1 : rng x1) (h2 : rng x2) (h3 : rng x3) (h4 : rng x4) (h5 : rng x5) (h6 : rng x6) (hw : wfm σ) (o : Int) (h : f_X13_pick x0 x1 x2 x3 x4 x5 x6 = some o) : CtI l yX13_pick cX13_pick 7 (some .int) rm_X13_pick (wlm cy ad) wfm G (tym cy) [vi x0, vi x1, vi x2, vi x3, vi x4, vi x5, vi x6] σ σ o := by
  refine ctI_of (by decide) (Nat.le_of_ble_eq_true rfl) hw (σ, o) o h (fun X Y v => EndI X Y cX13_pick rm_X13_pick .int (σ, v)) (fun _ _ h => h) (fun X A Q hX C => ?_)
  replace C : Cx X (Ym cy ad G A 7 Q) cX13_pick RX13 (some .int) rm_X13_pick (tym cy) := C
  show T X (Ym cy ad G A 7 Q) (fun v => EndI X (Ym cy ad G A 7 Q) cX13_pick rm_X13_pick .int (σ, v)) 0 0 0 [(0, vi x0), (1, vi x1), (2, vi x2), (3, vi x3), (4, vi x4), (5, vi x5), (6, vi x6)] [] σ (f_X13_pick x0 x1 x2 x3 x4 x5 x6)
  unfold f_X13_pick
  refine T_iload_n (pc := 0) C dX13_pick_0 rfl 0 rfl ?_
  refine T_ite (fun c1 => ?_) (fun c1 => ?_)
  · refine T_tswIn (pc := 1) C 0 c1 (rngL rfl) 40 dX13_pick_1 (by decide) (by decide) rfl rfl ?_
    refine T_iload_n (pc := 40) C dX13_pick_40 rfl 1 rfl ?_
    exact T_iret (pc := 41) x1 (fun h9 => h9) h1 (nar_I _) (by decide) dX13_pick_41
  refine T_ite (fun c2 => ?_) (fun c2 => ?_)
  · refine T_tswIn (pc := 1) C 1 c2 (rngL rfl) 42 dX13_pick_1 (by decide) (by decide) rfl rfl ?_
    refine T_iload_n (pc := 42) C dX13_pick_42 rfl 2 rfl ?_
    exact T_iret (pc := 43) x2 (fun h9 => h9) h2 (nar_I _) (by decide) dX13_pick_43
  refine T_ite (fun c3 => ?_) (fun c3 => ?_)
  · refine T_tswIn (pc := 1) C 2 c3 (rngL rfl) 44 dX13_pick_1 (by decide) (by decide) rfl rfl ?_
    refine T_iload_n (pc := 44) C dX13_pick_44 rfl 3 rfl ?_
    exact T_iret (pc := 45) x3 (fun h9 => h9) h3 (nar_I _) (by decide) dX13_pick_45
  refine T_ite (fun c4 => ?_) (fun c4 => ?_)
  · refine T_tswIn (pc := 1) C 3 c4 (rngL rfl) 46 dX13_pick_1 (by decide) (by decide) rfl rfl ?_
    refine T_iload (pc := 46) C dX13_pick_46 4 rfl ?_
    exact T_iret (pc := 48) x4 (fun h9 => h9) h4 (nar_I _) (by decide) dX13_pick_48
  refine T_ite (fun c5 => ?_) (fun c5 => ?_)
  · refine T_tswIn (pc := 1) C 4 c5 (rngL rfl) 49 dX13_pick_1 (by decide) (by decide) rfl rfl ?_
    refine T_iload (pc := 49) C dX13_pick_49 5 rfl ?_
    exact T_iret (pc := 51) x5 (fun h9 => h9) h5 (nar_I _) (by decide) dX13_pick_51
  refine T_ite (fun c6 => ?_) (fun c6 => ?_)
  · refine T_tswIn (pc := 1) C 5 c6 (rngL rfl) 52 dX13_pick_1 (by decide) (by decide) rfl rfl ?_
    refine T_iload (pc := 52) C dX13_pick_52 6 rfl ?_
    exact T_iret (pc := 54) x6 (fun h9 => h9) h6 (nar_I _) (by decide) dX13_pick_54
  refine T_tswOut (pc := 1) C h0 55 dX13_pick_1 (by omega) rfl ?_
  refine T_iconst (pc := 55) C dX13_pick_55 ?_
  exact T_iret (pc := 56) 0 (fun h9 => h9) (rngL rfl) (nar_I _) (by decide) dX13_pick_56

abbrev rm_X13_spelled : Room := ⟨1, 0, 0, 26⟩
theorem cm_X13_spelled : cmS yX13_spelled cX13_spelled 2 (some .int) 2 := ⟨kw_127, kw_145, ⟨by decide +kernel, by decide +kernel, by decide +kernel⟩, kw_481⟩
def f_X13_spelled (x0 : Int) (x1 : Int) : Option Int :=
  (if x0 = 0 then (f_X13_pick x1 115 116 111 112 0 0).bind fun v2 => some v2 else (if x0 = 1 then (f_X13_pick x1 119 97 108 107 0 0).bind fun v4 => some v4 else (if x0 = 2 then (f_X13_pick x1 108 105 110 101 0 0).bind fun v6 => some v6 else (if x0 = 3 then (f_X13_pick x1 97 100 100 0 0 0).bind fun v8 => some v8 else (if x0 = 4 then (f_X13_pick x1 99 117 116 0 0 0).bind fun v10 => some v10 else (if x0 = 5 then (f_X13_pick x1 114 97 105 110 0 0).bind fun v12 => some v12 else (if x0 = 6 then (f_X13_pick x1 100 114 121 0 0 0).bind fun v14 => some v14 else (if x0 = 7 then (f_X13_pick x1 99 108 111 115 101 0).bind fun v16 => some v16 else (if x0 = 8 then (f_X13_pick x1 111 112 101 110 0 0).bind fun v18 => some v18 else (if x0 = 9 then (f_X13_pick x1 104 97 108 116 0 0).bind fun v20 => some v20 else (if x0 = 10 then (f_X13_pick x1 103 111 0 0 0 0).bind fun v22 => some v22 else (if x0 = 11 then (f_X13_pick x1 115 101 108 108 0 0).bind fun v24 => some v24 else (if x0 = 12 then (f_X13_pick x1 114 101 102 117 110 100).bind fun v26 => some v26 else (f_X13_pick x1 119 97 105 116 0 0).bind fun v27 => some v27)))))))))))))
theorem ct_X13_spelled {l : Launch} {cy : ClassId} {ad : Nat → Nat} {G : va_G} (σ : Sm) (x0 : Int) (x1 : Int) (h0 : rng x0) (h1 : rng x1) (hw : wfm σ) (o : Int) (h : f_X13_spelled x0 x1 = some o) : CtI l yX13_spelled cX13_spelled 2 (some .int) rm_X13_spelled (wlm cy ad) wfm G (tym cy) [vi x0, vi x1] σ σ o := by
  refine ctI_of (by decide) (Nat.le_of_ble_eq_true rfl) hw (σ, o) o h (fun X Y v => EndI X Y cX13_spelled rm_X13_spelled .int (σ, v)) (fun _ _ h => h) (fun X A Q hX C => ?_)
  replace C : Cx X (Ym cy ad G A 2 Q) cX13_spelled RX13 (some .int) rm_X13_spelled (tym cy) := C
  show T X (Ym cy ad G A 2 Q) (fun v => EndI X (Ym cy ad G A 2 Q) cX13_spelled rm_X13_spelled .int (σ, v)) 0 0 0 [(0, vi x0), (1, vi x1)] [] σ (f_X13_spelled x0 x1)
  unfold f_X13_spelled
  refine T_iload_n (pc := 0) C dX13_spelled_0 rfl 0 rfl ?_
  refine T_ite (fun c1 => ?_) (fun c1 => ?_)
  · refine T_tswIn (pc := 1) C 0 c1 (rngL rfl) 68 dX13_spelled_1 (by decide) (by decide) rfl rfl ?_
    refine T_iload_n (pc := 68) C dX13_spelled_68 rfl 1 rfl ?_
    refine T_bipush (pc := 69) C dX13_spelled_69 (by decide) ?_
    refine T_bipush (pc := 71) C dX13_spelled_71 (by decide) ?_
    refine T_bipush (pc := 73) C dX13_spelled_73 (by decide) ?_
    refine T_bipush (pc := 75) C dX13_spelled_75 (by decide) ?_
    refine T_iconst (pc := 77) C dX13_spelled_77 ?_
    refine T_iconst (pc := 78) C dX13_spelled_78 ?_
    refine T_callSip (pc := 79) C [vi x1, vi 115, vi 116, vi 111, vi 112, vi 0, vi 0] [] (fun o h9 hw => ct_X13_pick σ x1 115 116 111 112 0 0 h1 (rngL rfl) (rngL rfl) (rngL rfl) (rngL rfl) (rngL rfl) (rngL rfl) hw o h9) kw_480 cm_X13_pick rfl rfl (Nat.le_of_ble_eq_true rfl) (by decide) (a' := 0) (b' := 0) ⟨rfl, rfl⟩ dX13_spelled_79 (fun v2 hv2 => ?_)
    exact T_iret (pc := 82) v2 (fun h9 => h9) hv2.1 (nar_I _) (by decide) dX13_spelled_82
  refine T_ite (fun c3 => ?_) (fun c3 => ?_)
  · refine T_tswIn (pc := 1) C 1 c3 (rngL rfl) 83 dX13_spelled_1 (by decide) (by decide) rfl rfl ?_
    refine T_iload_n (pc := 83) C dX13_spelled_83 rfl 1 rfl ?_
    refine T_bipush (pc := 84) C dX13_spelled_84 (by decide) ?_
    refine T_bipush (pc := 86) C dX13_spelled_86 (by decide) ?_
    refine T_bipush (pc := 88) C dX13_spelled_88 (by decide) ?_
    refine T_bipush (pc := 90) C dX13_spelled_90 (by decide) ?_
    refine T_iconst (pc := 92) C dX13_spelled_92 ?_
    refine T_iconst (pc := 93) C dX13_spelled_93 ?_
    refine T_callSip (pc := 94) C [vi x1, vi 119, vi 97, vi 108, vi 107, vi 0, vi 0] [] (fun o h9 hw => ct_X13_pick σ x1 119 97 108 107 0 0 h1 (rngL rfl) (rngL rfl) (rngL rfl) (rngL rfl) (rngL rfl) (rngL rfl) hw o h9) kw_480 cm_X13_pick rfl rfl (Nat.le_of_ble_eq_true rfl) (by decide) (a' := 0) (b' := 0) ⟨rfl, rfl⟩ dX13_spelled_94 (fun v4 hv4 => ?_)
    exact T_iret (pc := 97) v4 (fun h9 => h9) hv4.1 (nar_I _) (by decide) dX13_spelled_97
  refine T_ite (fun c5 => ?_) (fun c5 => ?_)
  · refine T_tswIn (pc := 1) C 2 c5 (rngL rfl) 98 dX13_spelled_1 (by decide) (by decide) rfl rfl ?_
    refine T_iload_n (pc := 98) C dX13_spelled_98 rfl 1 rfl ?_
    refine T_bipush (pc := 99) C dX13_spelled_99 (by decide) ?_
    refine T_bipush (pc := 101) C dX13_spelled_101 (by decide) ?_
    refine T_bipush (pc := 103) C dX13_spelled_103 (by decide) ?_
    refine T_bipush (pc := 105) C dX13_spelled_105 (by decide) ?_
    refine T_iconst (pc := 107) C dX13_spelled_107 ?_
    refine T_iconst (pc := 108) C dX13_spelled_108 ?_
    refine T_callSip (pc := 109) C [vi x1, vi 108, vi 105, vi 110, vi 101, vi 0, vi 0] [] (fun o h9 hw => ct_X13_pick σ x1 108 105 110 101 0 0 h1 (rngL rfl) (rngL rfl) (rngL rfl) (rngL rfl) (rngL rfl) (rngL rfl) hw o h9) kw_480 cm_X13_pick rfl rfl (Nat.le_of_ble_eq_true rfl) (by decide) (a' := 0) (b' := 0) ⟨rfl, rfl⟩ dX13_spelled_109 (fun v6 hv6 => ?_)
    exact T_iret (pc := 112) v6 (fun h9 => h9) hv6.1 (nar_I _) (by decide) dX13_spelled_112
  refine T_ite (fun c7 => ?_) (fun c7 => ?_)
  · refine T_tswIn (pc := 1) C 3 c7 (rngL rfl) 113 dX13_spelled_1 (by decide) (by decide) rfl rfl ?_
    refine T_iload_n (pc := 113) C dX13_spelled_113 rfl 1 rfl ?_
    refine T_bipush (pc := 114) C dX13_spelled_114 (by decide) ?_
    refine T_bipush (pc := 116) C dX13_spelled_116 (by decide) ?_
    refine T_bipush (pc := 118) C dX13_spelled_118 (by decide) ?_
    refine T_iconst (pc := 120) C dX13_spelled_120 ?_
    refine T_iconst (pc := 121) C dX13_spelled_121 ?_
    refine T_iconst (pc := 122) C dX13_spelled_122 ?_
    refine T_callSip (pc := 123) C [vi x1, vi 97, vi 100, vi 100, vi 0, vi 0, vi 0] [] (fun o h9 hw => ct_X13_pick σ x1 97 100 100 0 0 0 h1 (rngL rfl) (rngL rfl) (rngL rfl) (rngL rfl) (rngL rfl) (rngL rfl) hw o h9) kw_480 cm_X13_pick rfl rfl (Nat.le_of_ble_eq_true rfl) (by decide) (a' := 0) (b' := 0) ⟨rfl, rfl⟩ dX13_spelled_123 (fun v8 hv8 => ?_)
    exact T_iret (pc := 126) v8 (fun h9 => h9) hv8.1 (nar_I _) (by decide) dX13_spelled_126
  refine T_ite (fun c9 => ?_) (fun c9 => ?_)
  · refine T_tswIn (pc := 1) C 4 c9 (rngL rfl) 127 dX13_spelled_1 (by decide) (by decide) rfl rfl ?_
    refine T_iload_n (pc := 127) C dX13_spelled_127 rfl 1 rfl ?_
    refine T_bipush (pc := 128) C dX13_spelled_128 (by decide) ?_
    refine T_bipush (pc := 130) C dX13_spelled_130 (by decide) ?_
    refine T_bipush (pc := 132) C dX13_spelled_132 (by decide) ?_
    refine T_iconst (pc := 134) C dX13_spelled_134 ?_
    refine T_iconst (pc := 135) C dX13_spelled_135 ?_
    refine T_iconst (pc := 136) C dX13_spelled_136 ?_
    refine T_callSip (pc := 137) C [vi x1, vi 99, vi 117, vi 116, vi 0, vi 0, vi 0] [] (fun o h9 hw => ct_X13_pick σ x1 99 117 116 0 0 0 h1 (rngL rfl) (rngL rfl) (rngL rfl) (rngL rfl) (rngL rfl) (rngL rfl) hw o h9) kw_480 cm_X13_pick rfl rfl (Nat.le_of_ble_eq_true rfl) (by decide) (a' := 0) (b' := 0) ⟨rfl, rfl⟩ dX13_spelled_137 (fun v10 hv10 => ?_)
    exact T_iret (pc := 140) v10 (fun h9 => h9) hv10.1 (nar_I _) (by decide) dX13_spelled_140
  refine T_ite (fun c11 => ?_) (fun c11 => ?_)
  · refine T_tswIn (pc := 1) C 5 c11 (rngL rfl) 141 dX13_spelled_1 (by decide) (by decide) rfl rfl ?_
    refine T_iload_n (pc := 141) C dX13_spelled_141 rfl 1 rfl ?_
    refine T_bipush (pc := 142) C dX13_spelled_142 (by decide) ?_
    refine T_bipush (pc := 144) C dX13_spelled_144 (by decide) ?_
    refine T_bipush (pc := 146) C dX13_spelled_146 (by decide) ?_
    refine T_bipush (pc := 148) C dX13_spelled_148 (by decide) ?_
    refine T_iconst (pc := 150) C dX13_spelled_150 ?_
    refine T_iconst (pc := 151) C dX13_spelled_151 ?_
    refine T_callSip (pc := 152) C [vi x1, vi 114, vi 97, vi 105, vi 110, vi 0, vi 0] [] (fun o h9 hw => ct_X13_pick σ x1 114 97 105 110 0 0 h1 (rngL rfl) (rngL rfl) (rngL rfl) (rngL rfl) (rngL rfl) (rngL rfl) hw o h9) kw_480 cm_X13_pick rfl rfl (Nat.le_of_ble_eq_true rfl) (by decide) (a' := 0) (b' := 0) ⟨rfl, rfl⟩ dX13_spelled_152 (fun v12 hv12 => ?_)
    exact T_iret (pc := 155) v12 (fun h9 => h9) hv12.1 (nar_I _) (by decide) dX13_spelled_155
  refine T_ite (fun c13 => ?_) (fun c13 => ?_)
  · refine T_tswIn (pc := 1) C 6 c13 (rngL rfl) 156 dX13_spelled_1 (by decide) (by decide) rfl rfl ?_
    refine T_iload_n (pc := 156) C dX13_spelled_156 rfl 1 rfl ?_
    refine T_bipush (pc := 157) C dX13_spelled_157 (by decide) ?_
    refine T_bipush (pc := 159) C dX13_spelled_159 (by decide) ?_
    refine T_bipush (pc := 161) C dX13_spelled_161 (by decide) ?_
    refine T_iconst (pc := 163) C dX13_spelled_163 ?_
    refine T_iconst (pc := 164) C dX13_spelled_164 ?_
    refine T_iconst (pc := 165) C dX13_spelled_165 ?_
    refine T_callSip (pc := 166) C [vi x1, vi 100, vi 114, vi 121, vi 0, vi 0, vi 0] [] (fun o h9 hw => ct_X13_pick σ x1 100 114 121 0 0 0 h1 (rngL rfl) (rngL rfl) (rngL rfl) (rngL rfl) (rngL rfl) (rngL rfl) hw o h9) kw_480 cm_X13_pick rfl rfl (Nat.le_of_ble_eq_true rfl) (by decide) (a' := 0) (b' := 0) ⟨rfl, rfl⟩ dX13_spelled_166 (fun v14 hv14 => ?_)
    exact T_iret (pc := 169) v14 (fun h9 => h9) hv14.1 (nar_I _) (by decide) dX13_spelled_169
  refine T_ite (fun c15 => ?_) (fun c15 => ?_)
  · refine T_tswIn (pc := 1) C 7 c15 (rngL rfl) 170 dX13_spelled_1 (by decide) (by decide) rfl rfl ?_
    refine T_iload_n (pc := 170) C dX13_spelled_170 rfl 1 rfl ?_
    refine T_bipush (pc := 171) C dX13_spelled_171 (by decide) ?_
    refine T_bipush (pc := 173) C dX13_spelled_173 (by decide) ?_
    refine T_bipush (pc := 175) C dX13_spelled_175 (by decide) ?_
    refine T_bipush (pc := 177) C dX13_spelled_177 (by decide) ?_
    refine T_bipush (pc := 179) C dX13_spelled_179 (by decide) ?_
    refine T_iconst (pc := 181) C dX13_spelled_181 ?_
    refine T_callSip (pc := 182) C [vi x1, vi 99, vi 108, vi 111, vi 115, vi 101, vi 0] [] (fun o h9 hw => ct_X13_pick σ x1 99 108 111 115 101 0 h1 (rngL rfl) (rngL rfl) (rngL rfl) (rngL rfl) (rngL rfl) (rngL rfl) hw o h9) kw_480 cm_X13_pick rfl rfl (Nat.le_of_ble_eq_true rfl) (by decide) (a' := 0) (b' := 0) ⟨rfl, rfl⟩ dX13_spelled_182 (fun v16 hv16 => ?_)
    exact T_iret (pc := 185) v16 (fun h9 => h9) hv16.1 (nar_I _) (by decide) dX13_spelled_185
  refine T_ite (fun c17 => ?_) (fun c17 => ?_)
  · refine T_tswIn (pc := 1) C 8 c17 (rngL rfl) 186 dX13_spelled_1 (by decide) (by decide) rfl rfl ?_
    refine T_iload_n (pc := 186) C dX13_spelled_186 rfl 1 rfl ?_
    refine T_bipush (pc := 187) C dX13_spelled_187 (by decide) ?_
    refine T_bipush (pc := 189) C dX13_spelled_189 (by decide) ?_
    refine T_bipush (pc := 191) C dX13_spelled_191 (by decide) ?_
    refine T_bipush (pc := 193) C dX13_spelled_193 (by decide) ?_
    refine T_iconst (pc := 195) C dX13_spelled_195 ?_
    refine T_iconst (pc := 196) C dX13_spelled_196 ?_
    refine T_callSip (pc := 197) C [vi x1, vi 111, vi 112, vi 101, vi 110, vi 0, vi 0] [] (fun o h9 hw => ct_X13_pick σ x1 111 112 101 110 0 0 h1 (rngL rfl) (rngL rfl) (rngL rfl) (rngL rfl) (rngL rfl) (rngL rfl) hw o h9) kw_480 cm_X13_pick rfl rfl (Nat.le_of_ble_eq_true rfl) (by decide) (a' := 0) (b' := 0) ⟨rfl, rfl⟩ dX13_spelled_197 (fun v18 hv18 => ?_)
    exact T_iret (pc := 200) v18 (fun h9 => h9) hv18.1 (nar_I _) (by decide) dX13_spelled_200
  refine T_ite (fun c19 => ?_) (fun c19 => ?_)
  · refine T_tswIn (pc := 1) C 9 c19 (rngL rfl) 201 dX13_spelled_1 (by decide) (by decide) rfl rfl ?_
    refine T_iload_n (pc := 201) C dX13_spelled_201 rfl 1 rfl ?_
    refine T_bipush (pc := 202) C dX13_spelled_202 (by decide) ?_
    refine T_bipush (pc := 204) C dX13_spelled_204 (by decide) ?_
    refine T_bipush (pc := 206) C dX13_spelled_206 (by decide) ?_
    refine T_bipush (pc := 208) C dX13_spelled_208 (by decide) ?_
    refine T_iconst (pc := 210) C dX13_spelled_210 ?_
    refine T_iconst (pc := 211) C dX13_spelled_211 ?_
    refine T_callSip (pc := 212) C [vi x1, vi 104, vi 97, vi 108, vi 116, vi 0, vi 0] [] (fun o h9 hw => ct_X13_pick σ x1 104 97 108 116 0 0 h1 (rngL rfl) (rngL rfl) (rngL rfl) (rngL rfl) (rngL rfl) (rngL rfl) hw o h9) kw_480 cm_X13_pick rfl rfl (Nat.le_of_ble_eq_true rfl) (by decide) (a' := 0) (b' := 0) ⟨rfl, rfl⟩ dX13_spelled_212 (fun v20 hv20 => ?_)
    exact T_iret (pc := 215) v20 (fun h9 => h9) hv20.1 (nar_I _) (by decide) dX13_spelled_215
  refine T_ite (fun c21 => ?_) (fun c21 => ?_)
  · refine T_tswIn (pc := 1) C 10 c21 (rngL rfl) 216 dX13_spelled_1 (by decide) (by decide) rfl rfl ?_
    refine T_iload_n (pc := 216) C dX13_spelled_216 rfl 1 rfl ?_
    refine T_bipush (pc := 217) C dX13_spelled_217 (by decide) ?_
    refine T_bipush (pc := 219) C dX13_spelled_219 (by decide) ?_
    refine T_iconst (pc := 221) C dX13_spelled_221 ?_
    refine T_iconst (pc := 222) C dX13_spelled_222 ?_
    refine T_iconst (pc := 223) C dX13_spelled_223 ?_
    refine T_iconst (pc := 224) C dX13_spelled_224 ?_
    refine T_callSip (pc := 225) C [vi x1, vi 103, vi 111, vi 0, vi 0, vi 0, vi 0] [] (fun o h9 hw => ct_X13_pick σ x1 103 111 0 0 0 0 h1 (rngL rfl) (rngL rfl) (rngL rfl) (rngL rfl) (rngL rfl) (rngL rfl) hw o h9) kw_480 cm_X13_pick rfl rfl (Nat.le_of_ble_eq_true rfl) (by decide) (a' := 0) (b' := 0) ⟨rfl, rfl⟩ dX13_spelled_225 (fun v22 hv22 => ?_)
    exact T_iret (pc := 228) v22 (fun h9 => h9) hv22.1 (nar_I _) (by decide) dX13_spelled_228
  refine T_ite (fun c23 => ?_) (fun c23 => ?_)
  · refine T_tswIn (pc := 1) C 11 c23 (rngL rfl) 229 dX13_spelled_1 (by decide) (by decide) rfl rfl ?_
    refine T_iload_n (pc := 229) C dX13_spelled_229 rfl 1 rfl ?_
    refine T_bipush (pc := 230) C dX13_spelled_230 (by decide) ?_
    refine T_bipush (pc := 232) C dX13_spelled_232 (by decide) ?_
    refine T_bipush (pc := 234) C dX13_spelled_234 (by decide) ?_
    refine T_bipush (pc := 236) C dX13_spelled_236 (by decide) ?_
    refine T_iconst (pc := 238) C dX13_spelled_238 ?_
    refine T_iconst (pc := 239) C dX13_spelled_239 ?_
    refine T_callSip (pc := 240) C [vi x1, vi 115, vi 101, vi 108, vi 108, vi 0, vi 0] [] (fun o h9 hw => ct_X13_pick σ x1 115 101 108 108 0 0 h1 (rngL rfl) (rngL rfl) (rngL rfl) (rngL rfl) (rngL rfl) (rngL rfl) hw o h9) kw_480 cm_X13_pick rfl rfl (Nat.le_of_ble_eq_true rfl) (by decide) (a' := 0) (b' := 0) ⟨rfl, rfl⟩ dX13_spelled_240 (fun v24 hv24 => ?_)
    exact T_iret (pc := 243) v24 (fun h9 => h9) hv24.1 (nar_I _) (by decide) dX13_spelled_243
  refine T_ite (fun c25 => ?_) (fun c25 => ?_)
  · refine T_tswIn (pc := 1) C 12 c25 (rngL rfl) 244 dX13_spelled_1 (by decide) (by decide) rfl rfl ?_
    refine T_iload_n (pc := 244) C dX13_spelled_244 rfl 1 rfl ?_
    refine T_bipush (pc := 245) C dX13_spelled_245 (by decide) ?_
    refine T_bipush (pc := 247) C dX13_spelled_247 (by decide) ?_
    refine T_bipush (pc := 249) C dX13_spelled_249 (by decide) ?_
    refine T_bipush (pc := 251) C dX13_spelled_251 (by decide) ?_
    refine T_bipush (pc := 253) C dX13_spelled_253 (by decide) ?_
    refine T_bipush (pc := 255) C dX13_spelled_255 (by decide) ?_
    refine T_callSip (pc := 257) C [vi x1, vi 114, vi 101, vi 102, vi 117, vi 110, vi 100] [] (fun o h9 hw => ct_X13_pick σ x1 114 101 102 117 110 100 h1 (rngL rfl) (rngL rfl) (rngL rfl) (rngL rfl) (rngL rfl) (rngL rfl) hw o h9) kw_480 cm_X13_pick rfl rfl (Nat.le_of_ble_eq_true rfl) (by decide) (a' := 0) (b' := 0) ⟨rfl, rfl⟩ dX13_spelled_257 (fun v26 hv26 => ?_)
    exact T_iret (pc := 260) v26 (fun h9 => h9) hv26.1 (nar_I _) (by decide) dX13_spelled_260
  refine T_tswOut (pc := 1) C h0 261 dX13_spelled_1 (by omega) rfl ?_
  refine T_iload_n (pc := 261) C dX13_spelled_261 rfl 1 rfl ?_
  refine T_bipush (pc := 262) C dX13_spelled_262 (by decide) ?_
  refine T_bipush (pc := 264) C dX13_spelled_264 (by decide) ?_
  refine T_bipush (pc := 266) C dX13_spelled_266 (by decide) ?_
  refine T_bipush (pc := 268) C dX13_spelled_268 (by decide) ?_
  refine T_iconst (pc := 270) C dX13_spelled_270 ?_
  refine T_iconst (pc := 271) C dX13_spelled_271 ?_
  refine T_callSip (pc := 272) C [vi x1, vi 119, vi 97, vi 105, vi 116, vi 0, vi 0] [] (fun o h9 hw => ct_X13_pick σ x1 119 97 105 116 0 0 h1 (rngL rfl) (rngL rfl) (rngL rfl) (rngL rfl) (rngL rfl) (rngL rfl) hw o h9) kw_480 cm_X13_pick rfl rfl (Nat.le_of_ble_eq_true rfl) (by decide) (a' := 0) (b' := 0) ⟨rfl, rfl⟩ dX13_spelled_272 (fun v27 hv27 => ?_)
  exact T_iret (pc := 275) v27 (fun h9 => h9) hv27.1 (nar_I _) (by decide) dX13_spelled_275

abbrev rm_X13_word : Room := ⟨2, 0, 0, 47⟩
theorem cm_X13_word : cmV yX13_word cX13_word 4 (some .int) 0 := ⟨kw_128, kw_145, ⟨by decide +kernel, by decide +kernel, by decide +kernel⟩, kw_483, kw_484⟩
def f_X13_word_12 (σ : Sm) (x1 : Int) (x2 : Int) : Nat → Int → Option (Int)
  | 0, _ => none
  | n + 1, x3 => (f_X13_spelled x2 x3).bind fun v76 => (if v76 ≤ 0 then some x3 else if rng ((σ 19 0) + x3) then (if (σ 18 0) ≤ ((σ 19 0) + x3) then some x3 else if 0 ≤ ((σ 19 0) + x3) ∧ ((σ 19 0) + x3) < 60 then (f_X13_spelled x2 x3).bind fun v85 => (if (σ 8 ((σ 19 0) + x3).toNat) = v85 then if rng (x3 + 1) then f_X13_word_12 σ x1 x2 n (x3 + 1) else none else some x3) else none) else none)
theorem lp_X13_word_12 {X : vjX} {A : Nat → Prop} {Q : State → Prop} {cy : ClassId} {ad : Nat → Nat} {G : va_G} (C : Cx X (Ym cy ad G A 4 Q) cX13_word RX13 (some .int) rm_X13_word (tym cy)) (σ : Sm) (x1 : Int) (x2 : Int) (h1 : rng x1) (h2 : rng x2) : ∀ (n : Nat) (x3 : Int) (h3 : rng x3), T X (Ym cy ad G A 4 Q) (fun (q : Int) => rng q → J X (Ym cy ad G A 4 Q) 0 0 58 [(0, .ref (ad 0)), (1, vi x1), (2, vi x2), (3, vi q)] [] σ) 0 0 12 [(0, .ref (ad 0)), (1, vi x1), (2, vi x2), (3, vi x3)] [] σ (f_X13_word_12 σ x1 x2 n x3) := by
  intro n
  induction n with
  | zero => intro x3 h3; exact T_none
  | succ n ih =>
    intro x3 h3
    rw [f_X13_word_12]
    refine T_iload_n (pc := 12) C dX13_word_12 rfl 2 rfl ?_
    refine T_iload_n (pc := 13) C dX13_word_13 rfl 3 rfl ?_
    refine T_callSip (pc := 14) C [vi x2, vi x3] [] (fun o h9 hw => ct_X13_spelled σ x2 x3 h2 h3 hw o h9) kw_482 cm_X13_spelled rfl rfl (Nat.le_of_ble_eq_true rfl) (by decide) (a' := 0) (b' := 0) ⟨rfl, rfl⟩ dX13_word_14 (fun v76 hv76 => ?_)
    refine T_if_le (pc := 17) C 58 dX13_word_17 rfl hv76.1 (fun c77 => ?_) (fun c77 => ?_)
    · exact T_exit (fun h9 => h9 h3)
    · refine T_aload_n (pc := 20) C dX13_word_20 rfl 0 rfl ?_
      refine Tm_get (pc := 21) C 19 ⟨by decide, by decide⟩ kw_470 dX13_word_21 (fun r78 => ?_)
      refine T_iload_n (pc := 24) C dX13_word_24 rfl 3 rfl ?_
      refine T_iadd (pc := 25) C dX13_word_25 ?_
      refine T_aload_n (pc := 26) C dX13_word_26 rfl 0 rfl ?_
      refine Tm_get (pc := 27) C 18 ⟨by decide, by decide⟩ kw_471 dX13_word_27 (fun r79 => ?_)
      refine T_guard (fun g80 => ?_)
      refine T_icmp_ge (pc := 30) C 58 dX13_word_30 rfl g80 r79 (fun c81 => ?_) (fun c81 => ?_)
      · exact T_exit (fun h9 => h9 h3)
      · refine T_aload_n (pc := 33) C dX13_word_33 rfl 0 rfl ?_
        refine Tm_getA (pc := 34) C 13 8 (by decide) (fun _ => rfl) kw_466 rfl dX13_word_34 ?_
        refine T_aload_n (pc := 37) C dX13_word_37 rfl 0 rfl ?_
        refine Tm_get (pc := 38) C 19 ⟨by decide, by decide⟩ kw_470 dX13_word_38 (fun r82 => ?_)
        refine T_iload_n (pc := 41) C dX13_word_41 rfl 3 rfl ?_
        refine T_iadd (pc := 42) C dX13_word_42 ?_
        refine T_guard (fun g83 => ?_)
        refine Tm_iald (pc := 43) C 8 ((σ 19 0) + x3).toNat ⟨by decide, by decide⟩ g83 rfl dX13_word_43 (fun r84 => ?_)
        refine T_iload_n (pc := 44) C dX13_word_44 rfl 2 rfl ?_
        refine T_iload_n (pc := 45) C dX13_word_45 rfl 3 rfl ?_
        refine T_callSip (pc := 46) C [vi x2, vi x3] [vi (σ 8 ((σ 19 0) + x3).toNat)] (fun o h9 hw => ct_X13_spelled σ x2 x3 h2 h3 hw o h9) kw_482 cm_X13_spelled rfl rfl (Nat.le_of_ble_eq_true rfl) (by decide) (a' := 0) (b' := 0) ⟨rfl, rfl⟩ dX13_word_46 (fun v85 hv85 => ?_)
        refine T_icmp_ne (pc := 49) C 58 dX13_word_49 rfl r84 hv85.1 (fun c86 => ?_) (fun c86 => ?_)
        · exact T_exit (fun h9 => h9 h3)
        · refine T_iinc (pc := 52) (L' := [(3, vi (x3 + 1)), (0, .ref (ad 0)), (1, vi x1), (2, vi x2)]) C dX13_word_52 (Nat.le_of_ble_eq_true rfl) 3 rfl rfl ?_
          refine T_goto (pc := 55) C 12 dX13_word_55 rfl ?_
          refine T_sub (L' := [(0, .ref (ad 0)), (1, vi x1), (2, vi x2), (3, vi (x3 + 1))]) [1, 2, 3, 0] rfl ?_
          refine T_guard (fun g87 => ?_)
          exact ih (x3 + 1) g87
def f_X13_word_4 (N : Nat) : Nat → Sm → Int → Int → Option ((Sm × Int) ⊕ (Sm × Int))
  | 0, _, _, _ => none
  | n + 1, s0, x1, x2 => (if 14 ≤ x2 then some (.inr (s0, x1)) else (f_X13_word_12 s0 x1 x2 N 0).bind fun q88 => (f_X13_spelled x2 q88).bind fun v89 => (if v89 = 0 then if rng ((s0 19 0) + q88) then bl (upm s0 19 0 ((s0 19 0) + q88)) fun s94 => some (.inl (s94, x2)) else none else (if q88 ≤ x1 then f_X13_word_4 N n s0 x1 (x2 + 1) else f_X13_word_4 N n s0 q88 (x2 + 1))))
theorem lp_X13_word_4 {X : vjX} {A : Nat → Prop} {Q : State → Prop} {cy : ClassId} {ad : Nat → Nat} {G : va_G} (C : Cx X (Ym cy ad G A 4 Q) cX13_word RX13 (some .int) rm_X13_word (tym cy)) (N : Nat) : ∀ (n : Nat) (s0 : Sm) (x1 : Int) (x2 : Int) (h1 : rng x1) (h2 : rng x2), T X (Ym cy ad G A 4 Q) (Sum.elim (fun w => EndI X (Ym cy ad G A 4 Q) cX13_word rm_X13_word .int w) (fun (q : Sm × Int) => rng q.2 → J X (Ym cy ad G A 4 Q) 0 0 95 [(0, .ref (ad 0)), (1, vi q.2)] [] q.1)) 0 0 4 [(0, .ref (ad 0)), (1, vi x1), (2, vi x2)] [] s0 (f_X13_word_4 N n s0 x1 x2) := by
  intro n
  induction n with
  | zero => intro s0 x1 x2 h1 h2; exact T_none
  | succ n ih =>
    intro s0 x1 x2 h1 h2
    rw [f_X13_word_4]
    refine T_iload_n (pc := 4) C dX13_word_4 rfl 2 rfl ?_
    refine T_bipush (pc := 5) C dX13_word_5 (by decide) ?_
    refine T_icmp_ge (pc := 7) C 95 dX13_word_7 rfl h2 (rngL rfl) (fun c62 => ?_) (fun c62 => ?_)
    · refine T_sub (L' := [(0, .ref (ad 0)), (1, vi x1)]) [0, 1] rfl ?_
      exact T_exit (fun h9 => h9 h1)
    · refine T_iconst (pc := 10) C dX13_word_10 ?_
      refine T_istore_n (pc := 11) (L' := [(3, vi 0), (0, .ref (ad 0)), (1, vi x1), (2, vi x2)]) C dX13_word_11 rfl (Nat.le_of_ble_eq_true rfl) rfl ?_
      refine T_sub (L' := [(0, .ref (ad 0)), (1, vi x1), (2, vi x2), (3, vi 0)]) [1, 2, 3, 0] rfl ?_
      refine T_loopE (lp_X13_word_12 C s0 x1 x2 h1 h2 N 0 (rngL rfl)) (fun q88 hq88 => ?_)
      refine T_iload_n (pc := 58) C dX13_word_58 rfl 2 rfl ?_
      refine T_iload_n (pc := 59) C dX13_word_59 rfl 3 rfl ?_
      refine T_callSip (pc := 60) C [vi x2, vi q88] [] (fun o h9 hw => ct_X13_spelled s0 x2 q88 h2 hq88 hw o h9) kw_482 cm_X13_spelled rfl rfl (Nat.le_of_ble_eq_true rfl) (by decide) (a' := 0) (b' := 0) ⟨rfl, rfl⟩ dX13_word_60 (fun v89 hv89 => ?_)
      refine T_if_ne (pc := 63) C 78 dX13_word_63 rfl hv89.1 (fun c90 => ?_) (fun c90 => ?_)
      · refine T_iload_n (pc := 78) C dX13_word_78 rfl 3 rfl ?_
        refine T_iload_n (pc := 79) C dX13_word_79 rfl 1 rfl ?_
        refine T_icmp_le (pc := 80) C 87 dX13_word_80 rfl hq88 h1 (fun c91 => ?_) (fun c91 => ?_)
        · refine T_iload_n (pc := 87) C dX13_word_87 rfl 1 rfl ?_
          refine T_istore_n (pc := 88) (L' := [(1, vi x1), (0, .ref (ad 0)), (2, vi x2), (3, vi q88)]) C dX13_word_88 rfl (Nat.le_of_ble_eq_true rfl) rfl ?_
          refine T_iinc (pc := 89) (L' := [(2, vi (x2 + 1)), (1, vi x1), (0, .ref (ad 0)), (3, vi q88)]) C dX13_word_89 (Nat.le_of_ble_eq_true rfl) 2 rfl rfl ?_
          refine T_goto (pc := 92) C 4 dX13_word_92 rfl ?_
          refine T_sub (L' := [(0, .ref (ad 0)), (1, vi x1), (2, vi (x2 + 1))]) [2, 1, 0] rfl ?_
          exact ih s0 x1 (x2 + 1) h1 (rng_inc c62 h2 (rngL rfl))
        · refine T_iload_n (pc := 83) C dX13_word_83 rfl 3 rfl ?_
          refine T_goto (pc := 84) C 88 dX13_word_84 rfl ?_
          refine T_istore_n (pc := 88) (L' := [(1, vi q88), (0, .ref (ad 0)), (2, vi x2), (3, vi q88)]) C dX13_word_88 rfl (Nat.le_of_ble_eq_true rfl) rfl ?_
          refine T_iinc (pc := 89) (L' := [(2, vi (x2 + 1)), (1, vi q88), (0, .ref (ad 0)), (3, vi q88)]) C dX13_word_89 (Nat.le_of_ble_eq_true rfl) 2 rfl rfl ?_
          refine T_goto (pc := 92) C 4 dX13_word_92 rfl ?_
          refine T_sub (L' := [(0, .ref (ad 0)), (1, vi q88), (2, vi (x2 + 1))]) [2, 1, 0] rfl ?_
          exact ih s0 q88 (x2 + 1) hq88 (rng_inc c62 h2 (rngL rfl))
      · refine T_aload_n (pc := 66) C dX13_word_66 rfl 0 rfl ?_
        refine T_dup (pc := 67) C dX13_word_67 rfl ?_
        refine Tm_get (pc := 68) C 19 ⟨by decide, by decide⟩ kw_470 dX13_word_68 (fun r92 => ?_)
        refine T_iload_n (pc := 71) C dX13_word_71 rfl 3 rfl ?_
        refine T_iadd (pc := 72) C dX13_word_72 ?_
        refine T_guard (fun g93 => ?_)
        refine Tm_put (pc := 73) C (ty := .int) 19 ⟨by decide, by decide⟩ g93 kw_470 rfl (nar_I _) (fit_I _) dX13_word_73 ?_
        refine T_blS (fun s94 => ?_)
        refine T_iload_n (pc := 76) C dX13_word_76 rfl 2 rfl ?_
        exact T_iret (pc := 77) (Sum.inl (s94, x2)) (fun h9 => h9) h2 (nar_I _) (by decide) dX13_word_77
def f_X13_word (N : Nat) (σ : Sm) : Option (Sm × Int) :=
  (f_X13_word_4 N N σ 0 0).bind (Sum.elim (fun v => some v) fun q95 => if rng ((q95.1 19 0) + q95.2) then bl (upm q95.1 19 0 ((q95.1 19 0) + q95.2)) fun s98 => bl (upm s98 21 0 1) fun s99 => some (s99, 0) else none)
theorem ct_X13_word {l : Launch} {cy : ClassId} {ad : Nat → Nat} {G : va_G} (N : Nat) (σ : Sm) (hw : wfm σ) (o : Sm × Int) (h : f_X13_word N σ = some o) : CtI l yX13_word cX13_word 4 (some .int) rm_X13_word (wlm cy ad) wfm G (tym cy) [.ref (ad 0)] σ o.1 o.2 := by
  refine ctI_of (by decide) (Nat.le_of_ble_eq_true rfl) hw o o h (fun X Y w => EndI X Y cX13_word rm_X13_word .int w) (fun _ _ h => h) (fun X A Q hX C => ?_)
  replace C : Cx X (Ym cy ad G A 4 Q) cX13_word RX13 (some .int) rm_X13_word (tym cy) := C
  show T X (Ym cy ad G A 4 Q) (fun w => EndI X (Ym cy ad G A 4 Q) cX13_word rm_X13_word .int w) 0 0 0 [(0, .ref (ad 0))] [] σ (f_X13_word N σ)
  unfold f_X13_word
  refine T_iconst (pc := 0) C dX13_word_0 ?_
  refine T_istore_n (pc := 1) (L' := [(1, vi 0), (0, .ref (ad 0))]) C dX13_word_1 rfl (Nat.le_of_ble_eq_true rfl) rfl ?_
  refine T_iconst (pc := 2) C dX13_word_2 ?_
  refine T_istore_n (pc := 3) (L' := [(2, vi 0), (1, vi 0), (0, .ref (ad 0))]) C dX13_word_3 rfl (Nat.le_of_ble_eq_true rfl) rfl ?_
  refine T_sub (L' := [(0, .ref (ad 0)), (1, vi 0), (2, vi 0)]) [2, 1, 0] rfl ?_
  refine T_loopS (g := fun v => v) (lp_X13_word_4 C N N σ 0 0 (rngL rfl) (rngL rfl)) (fun v h9 => h9) (fun q95 hq95 => ?_)
  refine T_aload_n (pc := 95) C dX13_word_95 rfl 0 rfl ?_
  refine T_dup (pc := 96) C dX13_word_96 rfl ?_
  refine Tm_get (pc := 97) C 19 ⟨by decide, by decide⟩ kw_470 dX13_word_97 (fun r96 => ?_)
  refine T_iload_n (pc := 100) C dX13_word_100 rfl 1 rfl ?_
  refine T_iadd (pc := 101) C dX13_word_101 ?_
  refine T_guard (fun g97 => ?_)
  refine Tm_put (pc := 102) C (ty := .int) 19 ⟨by decide, by decide⟩ g97 kw_470 rfl (nar_I _) (fit_I _) dX13_word_102 ?_
  refine T_blS (fun s98 => ?_)
  refine T_aload_n (pc := 105) C dX13_word_105 rfl 0 rfl ?_
  refine T_iconst (pc := 106) C dX13_word_106 ?_
  refine Tm_put (pc := 107) C (ty := .boolean) 21 ⟨by decide, by decide⟩ (rngL rfl) kw_469 rfl (nar_Z (Or.inr rfl)) (fit_Z (Or.inr rfl)) dX13_word_107 ?_
  refine T_blS (fun s99 => ?_)
  refine T_iconst (pc := 110) C dX13_word_110 ?_
  exact T_iret (pc := 111) (s99, 0) (fun h9 => h9) (rngL rfl) (nar_I _) (by decide) dX13_word_111

abbrev rm_X13_put : Room := ⟨0, 0, 0, 0⟩
theorem cm_X13_put : cmV yX13_put cX13_put 3 none 2 := ⟨kw_129, kw_145, ⟨by decide +kernel, by decide +kernel, by decide +kernel⟩, kw_487, kw_488⟩
def f_X13_put (σ : Sm) (x1 : Int) (x2 : Int) : Option Sm :=
  if 0 ≤ ((4 * (σ 20 0)) + x1) ∧ ((4 * (σ 20 0)) + x1) < 128 then bl (upm σ 10 ((4 * (σ 20 0)) + x1).toNat x2) fun s3 => some s3 else none
theorem ct_X13_put {l : Launch} {cy : ClassId} {ad : Nat → Nat} {G : va_G} (σ : Sm) (x1 : Int) (x2 : Int) (h1 : rng x1) (h2 : rng x2) (hw : wfm σ) (o : Sm) (h : f_X13_put σ x1 x2 = some o) : CtV l yX13_put cX13_put 3 rm_X13_put (wlm cy ad) wfm G (tym cy) [.ref (ad 0), vi x1, vi x2] σ o := by
  refine ctV_of (by decide) (Nat.le_of_ble_eq_true rfl) hw o o h (fun X Y w => EndV X Y cX13_put rm_X13_put w) (fun _ _ h => h) (fun X A Q hX C => ?_)
  replace C : Cx X (Ym cy ad G A 3 Q) cX13_put RX13 none rm_X13_put (tym cy) := C
  show T X (Ym cy ad G A 3 Q) (fun w => EndV X (Ym cy ad G A 3 Q) cX13_put rm_X13_put w) 0 0 0 [(0, .ref (ad 0)), (1, vi x1), (2, vi x2)] [] σ (f_X13_put σ x1 x2)
  unfold f_X13_put
  refine T_aload_n (pc := 0) C dX13_put_0 rfl 0 rfl ?_
  refine Tm_getA (pc := 1) C 15 10 (by decide) (fun _ => rfl) kw_485 rfl dX13_put_1 ?_
  refine T_iconst (pc := 4) C dX13_put_4 ?_
  refine T_aload_n (pc := 5) C dX13_put_5 rfl 0 rfl ?_
  refine Tm_get (pc := 6) C 20 ⟨by decide, by decide⟩ kw_486 dX13_put_6 (fun r1 => ?_)
  refine T_imul (pc := 9) C dX13_put_9 ?_
  refine T_iload_n (pc := 10) C dX13_put_10 rfl 1 rfl ?_
  refine T_iadd (pc := 11) C dX13_put_11 ?_
  refine T_iload_n (pc := 12) C dX13_put_12 rfl 2 rfl ?_
  refine T_guard (fun g2 => ?_)
  refine Tm_iast (pc := 13) C 10 ((4 * (σ 20 0)) + x1).toNat ⟨by decide, by decide⟩ g2 rfl h2 dX13_put_13 ?_
  refine T_blS (fun s3 => ?_)
  exact T_vret (pc := 14) s3 (fun h9 => h9) (by decide) dX13_put_14

abbrev rm_X13_readsWalk : Room := ⟨2, 0, 0, 45⟩
theorem cm_X13_readsWalk : cmV yX13_readsWalk cX13_readsWalk 1 none 0 := ⟨kw_130, kw_145, ⟨by decide +kernel, by decide +kernel, by decide +kernel⟩, kw_492, kw_493⟩
def f_X13_readsWalk (N : Nat) (σ : Sm) : Option Sm :=
  (f_X13_number N σ 1).bind fun v1 => (f_X13_put v1.1 0 v1.2).bind fun s2 => (f_X13_expect s2 45).bind fun s3 => (f_X13_number N s3 1).bind fun v4 => (f_X13_put v4.1 1 v4.2).bind fun s5 => (f_X13_expect s5 32).bind fun s6 => (f_X13_number N s6 3).bind fun v7 => (f_X13_put v7.1 2 v7.2).bind fun s8 => some s8
theorem ct_X13_readsWalk {l : Launch} {cy : ClassId} {ad : Nat → Nat} {G : va_G} (N : Nat) (σ : Sm) (hw : wfm σ) (o : Sm) (h : f_X13_readsWalk N σ = some o) : CtV l yX13_readsWalk cX13_readsWalk 1 rm_X13_readsWalk (wlm cy ad) wfm G (tym cy) [.ref (ad 0)] σ o := by
  refine ctV_of (by decide) (Nat.le_of_ble_eq_true rfl) hw o o h (fun X Y w => EndV X Y cX13_readsWalk rm_X13_readsWalk w) (fun _ _ h => h) (fun X A Q hX C => ?_)
  replace C : Cx X (Ym cy ad G A 1 Q) cX13_readsWalk RX13 none rm_X13_readsWalk (tym cy) := C
  show T X (Ym cy ad G A 1 Q) (fun w => EndV X (Ym cy ad G A 1 Q) cX13_readsWalk rm_X13_readsWalk w) 0 0 0 [(0, .ref (ad 0))] [] σ (f_X13_readsWalk N σ)
  unfold f_X13_readsWalk
  refine T_aload_n (pc := 0) C dX13_readsWalk_0 rfl 0 rfl ?_
  refine T_iconst (pc := 1) C dX13_readsWalk_1 ?_
  refine T_aload_n (pc := 2) C dX13_readsWalk_2 rfl 0 rfl ?_
  refine T_iconst (pc := 3) C dX13_readsWalk_3 ?_
  refine T_callVi (pc := 4) C [vi 1] [vi 0, .ref (ad 0)] (fun o h9 hw => ct_X13_number N σ 1 (rngL rfl) hw o h9) kw_489 cm_X13_number rcm rfl rfl (Nat.le_of_ble_eq_true rfl) (by decide) (a' := 0) (b' := 0) ⟨rfl, rfl⟩ dX13_readsWalk_4 (fun v1 hv1 => ?_)
  refine T_callVv (pc := 7) C [vi 0, vi v1.2] [] (fun o h9 hw => ct_X13_put v1.1 0 v1.2 (rngL rfl) hv1.1 hw o h9) kw_490 cm_X13_put rcm rfl rfl (Nat.le_of_ble_eq_true rfl) (by decide) (a' := 0) (b' := 0) ⟨rfl, rfl⟩ dX13_readsWalk_7 (fun s2 => ?_)
  refine T_aload_n (pc := 10) C dX13_readsWalk_10 rfl 0 rfl ?_
  refine T_bipush (pc := 11) C dX13_readsWalk_11 (by decide) ?_
  refine T_callVv (pc := 13) C [vi 45] [] (fun o h9 hw => ct_X13_expect s2 45 (rngL rfl) hw o h9) kw_491 cm_X13_expect rcm rfl rfl (Nat.le_of_ble_eq_true rfl) (by decide) (a' := 0) (b' := 0) ⟨rfl, rfl⟩ dX13_readsWalk_13 (fun s3 => ?_)
  refine T_aload_n (pc := 16) C dX13_readsWalk_16 rfl 0 rfl ?_
  refine T_iconst (pc := 17) C dX13_readsWalk_17 ?_
  refine T_aload_n (pc := 18) C dX13_readsWalk_18 rfl 0 rfl ?_
  refine T_iconst (pc := 19) C dX13_readsWalk_19 ?_
  refine T_callVi (pc := 20) C [vi 1] [vi 1, .ref (ad 0)] (fun o h9 hw => ct_X13_number N s3 1 (rngL rfl) hw o h9) kw_489 cm_X13_number rcm rfl rfl (Nat.le_of_ble_eq_true rfl) (by decide) (a' := 0) (b' := 0) ⟨rfl, rfl⟩ dX13_readsWalk_20 (fun v4 hv4 => ?_)
  refine T_callVv (pc := 23) C [vi 1, vi v4.2] [] (fun o h9 hw => ct_X13_put v4.1 1 v4.2 (rngL rfl) hv4.1 hw o h9) kw_490 cm_X13_put rcm rfl rfl (Nat.le_of_ble_eq_true rfl) (by decide) (a' := 0) (b' := 0) ⟨rfl, rfl⟩ dX13_readsWalk_23 (fun s5 => ?_)
  refine T_aload_n (pc := 26) C dX13_readsWalk_26 rfl 0 rfl ?_
  refine T_bipush (pc := 27) C dX13_readsWalk_27 (by decide) ?_
  refine T_callVv (pc := 29) C [vi 32] [] (fun o h9 hw => ct_X13_expect s5 32 (rngL rfl) hw o h9) kw_491 cm_X13_expect rcm rfl rfl (Nat.le_of_ble_eq_true rfl) (by decide) (a' := 0) (b' := 0) ⟨rfl, rfl⟩ dX13_readsWalk_29 (fun s6 => ?_)
  refine T_aload_n (pc := 32) C dX13_readsWalk_32 rfl 0 rfl ?_
  refine T_iconst (pc := 33) C dX13_readsWalk_33 ?_
  refine T_aload_n (pc := 34) C dX13_readsWalk_34 rfl 0 rfl ?_
  refine T_iconst (pc := 35) C dX13_readsWalk_35 ?_
  refine T_callVi (pc := 36) C [vi 3] [vi 2, .ref (ad 0)] (fun o h9 hw => ct_X13_number N s6 3 (rngL rfl) hw o h9) kw_489 cm_X13_number rcm rfl rfl (Nat.le_of_ble_eq_true rfl) (by decide) (a' := 0) (b' := 0) ⟨rfl, rfl⟩ dX13_readsWalk_36 (fun v7 hv7 => ?_)
  refine T_callVv (pc := 39) C [vi 2, vi v7.2] [] (fun o h9 hw => ct_X13_put v7.1 2 v7.2 (rngL rfl) hv7.1 hw o h9) kw_490 cm_X13_put rcm rfl rfl (Nat.le_of_ble_eq_true rfl) (by decide) (a' := 0) (b' := 0) ⟨rfl, rfl⟩ dX13_readsWalk_39 (fun s8 => ?_)
  exact T_vret (pc := 42) s8 (fun h9 => h9) (by decide) dX13_readsWalk_42

abbrev rm_X13_readsLine : Room := ⟨2, 0, 0, 45⟩
theorem cm_X13_readsLine : cmV yX13_readsLine cX13_readsLine 1 none 0 := ⟨kw_131, kw_145, ⟨by decide +kernel, by decide +kernel, by decide +kernel⟩, kw_494, kw_495⟩
def f_X13_readsLine (N : Nat) (σ : Sm) : Option Sm :=
  (f_X13_number N σ 3).bind fun v1 => (f_X13_put v1.1 0 v1.2).bind fun s2 => (f_X13_expect s2 47).bind fun s3 => (f_X13_number N s3 3).bind fun v4 => (f_X13_put v4.1 1 v4.2).bind fun s5 => (f_X13_expect s5 32).bind fun s6 => (f_X13_number N s6 1).bind fun v7 => (f_X13_put v7.1 2 v7.2).bind fun s8 => (f_X13_expect s8 120).bind fun s9 => (f_X13_number N s9 3).bind fun v10 => (f_X13_put v10.1 3 v10.2).bind fun s11 => some s11
theorem ct_X13_readsLine {l : Launch} {cy : ClassId} {ad : Nat → Nat} {G : va_G} (N : Nat) (σ : Sm) (hw : wfm σ) (o : Sm) (h : f_X13_readsLine N σ = some o) : CtV l yX13_readsLine cX13_readsLine 1 rm_X13_readsLine (wlm cy ad) wfm G (tym cy) [.ref (ad 0)] σ o := by
  refine ctV_of (by decide) (Nat.le_of_ble_eq_true rfl) hw o o h (fun X Y w => EndV X Y cX13_readsLine rm_X13_readsLine w) (fun _ _ h => h) (fun X A Q hX C => ?_)
  replace C : Cx X (Ym cy ad G A 1 Q) cX13_readsLine RX13 none rm_X13_readsLine (tym cy) := C
  show T X (Ym cy ad G A 1 Q) (fun w => EndV X (Ym cy ad G A 1 Q) cX13_readsLine rm_X13_readsLine w) 0 0 0 [(0, .ref (ad 0))] [] σ (f_X13_readsLine N σ)
  unfold f_X13_readsLine
  refine T_aload_n (pc := 0) C dX13_readsLine_0 rfl 0 rfl ?_
  refine T_iconst (pc := 1) C dX13_readsLine_1 ?_
  refine T_aload_n (pc := 2) C dX13_readsLine_2 rfl 0 rfl ?_
  refine T_iconst (pc := 3) C dX13_readsLine_3 ?_
  refine T_callVi (pc := 4) C [vi 3] [vi 0, .ref (ad 0)] (fun o h9 hw => ct_X13_number N σ 3 (rngL rfl) hw o h9) kw_489 cm_X13_number rcm rfl rfl (Nat.le_of_ble_eq_true rfl) (by decide) (a' := 0) (b' := 0) ⟨rfl, rfl⟩ dX13_readsLine_4 (fun v1 hv1 => ?_)
  refine T_callVv (pc := 7) C [vi 0, vi v1.2] [] (fun o h9 hw => ct_X13_put v1.1 0 v1.2 (rngL rfl) hv1.1 hw o h9) kw_490 cm_X13_put rcm rfl rfl (Nat.le_of_ble_eq_true rfl) (by decide) (a' := 0) (b' := 0) ⟨rfl, rfl⟩ dX13_readsLine_7 (fun s2 => ?_)
  refine T_aload_n (pc := 10) C dX13_readsLine_10 rfl 0 rfl ?_
  refine T_bipush (pc := 11) C dX13_readsLine_11 (by decide) ?_
  refine T_callVv (pc := 13) C [vi 47] [] (fun o h9 hw => ct_X13_expect s2 47 (rngL rfl) hw o h9) kw_491 cm_X13_expect rcm rfl rfl (Nat.le_of_ble_eq_true rfl) (by decide) (a' := 0) (b' := 0) ⟨rfl, rfl⟩ dX13_readsLine_13 (fun s3 => ?_)
  refine T_aload_n (pc := 16) C dX13_readsLine_16 rfl 0 rfl ?_
  refine T_iconst (pc := 17) C dX13_readsLine_17 ?_
  refine T_aload_n (pc := 18) C dX13_readsLine_18 rfl 0 rfl ?_
  refine T_iconst (pc := 19) C dX13_readsLine_19 ?_
  refine T_callVi (pc := 20) C [vi 3] [vi 1, .ref (ad 0)] (fun o h9 hw => ct_X13_number N s3 3 (rngL rfl) hw o h9) kw_489 cm_X13_number rcm rfl rfl (Nat.le_of_ble_eq_true rfl) (by decide) (a' := 0) (b' := 0) ⟨rfl, rfl⟩ dX13_readsLine_20 (fun v4 hv4 => ?_)
  refine T_callVv (pc := 23) C [vi 1, vi v4.2] [] (fun o h9 hw => ct_X13_put v4.1 1 v4.2 (rngL rfl) hv4.1 hw o h9) kw_490 cm_X13_put rcm rfl rfl (Nat.le_of_ble_eq_true rfl) (by decide) (a' := 0) (b' := 0) ⟨rfl, rfl⟩ dX13_readsLine_23 (fun s5 => ?_)
  refine T_aload_n (pc := 26) C dX13_readsLine_26 rfl 0 rfl ?_
  refine T_bipush (pc := 27) C dX13_readsLine_27 (by decide) ?_
  refine T_callVv (pc := 29) C [vi 32] [] (fun o h9 hw => ct_X13_expect s5 32 (rngL rfl) hw o h9) kw_491 cm_X13_expect rcm rfl rfl (Nat.le_of_ble_eq_true rfl) (by decide) (a' := 0) (b' := 0) ⟨rfl, rfl⟩ dX13_readsLine_29 (fun s6 => ?_)
  refine T_aload_n (pc := 32) C dX13_readsLine_32 rfl 0 rfl ?_
  refine T_iconst (pc := 33) C dX13_readsLine_33 ?_
  refine T_aload_n (pc := 34) C dX13_readsLine_34 rfl 0 rfl ?_
  refine T_iconst (pc := 35) C dX13_readsLine_35 ?_
  refine T_callVi (pc := 36) C [vi 1] [vi 2, .ref (ad 0)] (fun o h9 hw => ct_X13_number N s6 1 (rngL rfl) hw o h9) kw_489 cm_X13_number rcm rfl rfl (Nat.le_of_ble_eq_true rfl) (by decide) (a' := 0) (b' := 0) ⟨rfl, rfl⟩ dX13_readsLine_36 (fun v7 hv7 => ?_)
  refine T_callVv (pc := 39) C [vi 2, vi v7.2] [] (fun o h9 hw => ct_X13_put v7.1 2 v7.2 (rngL rfl) hv7.1 hw o h9) kw_490 cm_X13_put rcm rfl rfl (Nat.le_of_ble_eq_true rfl) (by decide) (a' := 0) (b' := 0) ⟨rfl, rfl⟩ dX13_readsLine_39 (fun s8 => ?_)
  refine T_aload_n (pc := 42) C dX13_readsLine_42 rfl 0 rfl ?_
  refine T_bipush (pc := 43) C dX13_readsLine_43 (by decide) ?_
  refine T_callVv (pc := 45) C [vi 120] [] (fun o h9 hw => ct_X13_expect s8 120 (rngL rfl) hw o h9) kw_491 cm_X13_expect rcm rfl rfl (Nat.le_of_ble_eq_true rfl) (by decide) (a' := 0) (b' := 0) ⟨rfl, rfl⟩ dX13_readsLine_45 (fun s9 => ?_)
  refine T_aload_n (pc := 48) C dX13_readsLine_48 rfl 0 rfl ?_
  refine T_iconst (pc := 49) C dX13_readsLine_49 ?_
  refine T_aload_n (pc := 50) C dX13_readsLine_50 rfl 0 rfl ?_
  refine T_iconst (pc := 51) C dX13_readsLine_51 ?_
  refine T_callVi (pc := 52) C [vi 3] [vi 3, .ref (ad 0)] (fun o h9 hw => ct_X13_number N s9 3 (rngL rfl) hw o h9) kw_489 cm_X13_number rcm rfl rfl (Nat.le_of_ble_eq_true rfl) (by decide) (a' := 0) (b' := 0) ⟨rfl, rfl⟩ dX13_readsLine_52 (fun v10 hv10 => ?_)
  refine T_callVv (pc := 55) C [vi 3, vi v10.2] [] (fun o h9 hw => ct_X13_put v10.1 3 v10.2 (rngL rfl) hv10.1 hw o h9) kw_490 cm_X13_put rcm rfl rfl (Nat.le_of_ble_eq_true rfl) (by decide) (a' := 0) (b' := 0) ⟨rfl, rfl⟩ dX13_readsLine_55 (fun s11 => ?_)
  exact T_vret (pc := 58) s11 (fun h9 => h9) (by decide) dX13_readsLine_58

abbrev rm_X13_readsSale : Room := ⟨2, 0, 0, 45⟩
theorem cm_X13_readsSale : cmV yX13_readsSale cX13_readsSale 1 none 0 := ⟨kw_132, kw_145, ⟨by decide +kernel, by decide +kernel, by decide +kernel⟩, kw_496, kw_497⟩
def f_X13_readsSale (N : Nat) (σ : Sm) : Option Sm :=
  (f_X13_number N σ 1).bind fun v1 => (f_X13_put v1.1 0 v1.2).bind fun s2 => (f_X13_expect s2 32).bind fun s3 => (f_X13_number N s3 3).bind fun v4 => (f_X13_put v4.1 1 v4.2).bind fun s5 => (f_X13_expect s5 32).bind fun s6 => (f_X13_number N s6 1).bind fun v7 => (f_X13_put v7.1 2 v7.2).bind fun s8 => (f_X13_expect s8 62).bind fun s9 => (f_X13_number N s9 1).bind fun v10 => (f_X13_put v10.1 3 v10.2).bind fun s11 => some s11
theorem ct_X13_readsSale {l : Launch} {cy : ClassId} {ad : Nat → Nat} {G : va_G} (N : Nat) (σ : Sm) (hw : wfm σ) (o : Sm) (h : f_X13_readsSale N σ = some o) : CtV l yX13_readsSale cX13_readsSale 1 rm_X13_readsSale (wlm cy ad) wfm G (tym cy) [.ref (ad 0)] σ o := by
  refine ctV_of (by decide) (Nat.le_of_ble_eq_true rfl) hw o o h (fun X Y w => EndV X Y cX13_readsSale rm_X13_readsSale w) (fun _ _ h => h) (fun X A Q hX C => ?_)
  replace C : Cx X (Ym cy ad G A 1 Q) cX13_readsSale RX13 none rm_X13_readsSale (tym cy) := C
  show T X (Ym cy ad G A 1 Q) (fun w => EndV X (Ym cy ad G A 1 Q) cX13_readsSale rm_X13_readsSale w) 0 0 0 [(0, .ref (ad 0))] [] σ (f_X13_readsSale N σ)
  unfold f_X13_readsSale
  refine T_aload_n (pc := 0) C dX13_readsSale_0 rfl 0 rfl ?_
  refine T_iconst (pc := 1) C dX13_readsSale_1 ?_
  refine T_aload_n (pc := 2) C dX13_readsSale_2 rfl 0 rfl ?_
  refine T_iconst (pc := 3) C dX13_readsSale_3 ?_
  refine T_callVi (pc := 4) C [vi 1] [vi 0, .ref (ad 0)] (fun o h9 hw => ct_X13_number N σ 1 (rngL rfl) hw o h9) kw_489 cm_X13_number rcm rfl rfl (Nat.le_of_ble_eq_true rfl) (by decide) (a' := 0) (b' := 0) ⟨rfl, rfl⟩ dX13_readsSale_4 (fun v1 hv1 => ?_)
  refine T_callVv (pc := 7) C [vi 0, vi v1.2] [] (fun o h9 hw => ct_X13_put v1.1 0 v1.2 (rngL rfl) hv1.1 hw o h9) kw_490 cm_X13_put rcm rfl rfl (Nat.le_of_ble_eq_true rfl) (by decide) (a' := 0) (b' := 0) ⟨rfl, rfl⟩ dX13_readsSale_7 (fun s2 => ?_)
  refine T_aload_n (pc := 10) C dX13_readsSale_10 rfl 0 rfl ?_
  refine T_bipush (pc := 11) C dX13_readsSale_11 (by decide) ?_
  refine T_callVv (pc := 13) C [vi 32] [] (fun o h9 hw => ct_X13_expect s2 32 (rngL rfl) hw o h9) kw_491 cm_X13_expect rcm rfl rfl (Nat.le_of_ble_eq_true rfl) (by decide) (a' := 0) (b' := 0) ⟨rfl, rfl⟩ dX13_readsSale_13 (fun s3 => ?_)
  refine T_aload_n (pc := 16) C dX13_readsSale_16 rfl 0 rfl ?_
  refine T_iconst (pc := 17) C dX13_readsSale_17 ?_
  refine T_aload_n (pc := 18) C dX13_readsSale_18 rfl 0 rfl ?_
  refine T_iconst (pc := 19) C dX13_readsSale_19 ?_
  refine T_callVi (pc := 20) C [vi 3] [vi 1, .ref (ad 0)] (fun o h9 hw => ct_X13_number N s3 3 (rngL rfl) hw o h9) kw_489 cm_X13_number rcm rfl rfl (Nat.le_of_ble_eq_true rfl) (by decide) (a' := 0) (b' := 0) ⟨rfl, rfl⟩ dX13_readsSale_20 (fun v4 hv4 => ?_)
  refine T_callVv (pc := 23) C [vi 1, vi v4.2] [] (fun o h9 hw => ct_X13_put v4.1 1 v4.2 (rngL rfl) hv4.1 hw o h9) kw_490 cm_X13_put rcm rfl rfl (Nat.le_of_ble_eq_true rfl) (by decide) (a' := 0) (b' := 0) ⟨rfl, rfl⟩ dX13_readsSale_23 (fun s5 => ?_)
  refine T_aload_n (pc := 26) C dX13_readsSale_26 rfl 0 rfl ?_
  refine T_bipush (pc := 27) C dX13_readsSale_27 (by decide) ?_
  refine T_callVv (pc := 29) C [vi 32] [] (fun o h9 hw => ct_X13_expect s5 32 (rngL rfl) hw o h9) kw_491 cm_X13_expect rcm rfl rfl (Nat.le_of_ble_eq_true rfl) (by decide) (a' := 0) (b' := 0) ⟨rfl, rfl⟩ dX13_readsSale_29 (fun s6 => ?_)
  refine T_aload_n (pc := 32) C dX13_readsSale_32 rfl 0 rfl ?_
  refine T_iconst (pc := 33) C dX13_readsSale_33 ?_
  refine T_aload_n (pc := 34) C dX13_readsSale_34 rfl 0 rfl ?_
  refine T_iconst (pc := 35) C dX13_readsSale_35 ?_
  refine T_callVi (pc := 36) C [vi 1] [vi 2, .ref (ad 0)] (fun o h9 hw => ct_X13_number N s6 1 (rngL rfl) hw o h9) kw_489 cm_X13_number rcm rfl rfl (Nat.le_of_ble_eq_true rfl) (by decide) (a' := 0) (b' := 0) ⟨rfl, rfl⟩ dX13_readsSale_36 (fun v7 hv7 => ?_)
  refine T_callVv (pc := 39) C [vi 2, vi v7.2] [] (fun o h9 hw => ct_X13_put v7.1 2 v7.2 (rngL rfl) hv7.1 hw o h9) kw_490 cm_X13_put rcm rfl rfl (Nat.le_of_ble_eq_true rfl) (by decide) (a' := 0) (b' := 0) ⟨rfl, rfl⟩ dX13_readsSale_39 (fun s8 => ?_)
  refine T_aload_n (pc := 42) C dX13_readsSale_42 rfl 0 rfl ?_
  refine T_bipush (pc := 43) C dX13_readsSale_43 (by decide) ?_
  refine T_callVv (pc := 45) C [vi 62] [] (fun o h9 hw => ct_X13_expect s8 62 (rngL rfl) hw o h9) kw_491 cm_X13_expect rcm rfl rfl (Nat.le_of_ble_eq_true rfl) (by decide) (a' := 0) (b' := 0) ⟨rfl, rfl⟩ dX13_readsSale_45 (fun s9 => ?_)
  refine T_aload_n (pc := 48) C dX13_readsSale_48 rfl 0 rfl ?_
  refine T_iconst (pc := 49) C dX13_readsSale_49 ?_
  refine T_aload_n (pc := 50) C dX13_readsSale_50 rfl 0 rfl ?_
  refine T_iconst (pc := 51) C dX13_readsSale_51 ?_
  refine T_callVi (pc := 52) C [vi 1] [vi 3, .ref (ad 0)] (fun o h9 hw => ct_X13_number N s9 1 (rngL rfl) hw o h9) kw_489 cm_X13_number rcm rfl rfl (Nat.le_of_ble_eq_true rfl) (by decide) (a' := 0) (b' := 0) ⟨rfl, rfl⟩ dX13_readsSale_52 (fun v10 hv10 => ?_)
  refine T_callVv (pc := 55) C [vi 3, vi v10.2] [] (fun o h9 hw => ct_X13_put v10.1 3 v10.2 (rngL rfl) hv10.1 hw o h9) kw_490 cm_X13_put rcm rfl rfl (Nat.le_of_ble_eq_true rfl) (by decide) (a' := 0) (b' := 0) ⟨rfl, rfl⟩ dX13_readsSale_55 (fun s11 => ?_)
  exact T_vret (pc := 58) s11 (fun h9 => h9) (by decide) dX13_readsSale_58

abbrev rm_X13_readsArguments : Room := ⟨3, 0, 0, 65⟩
theorem cm_X13_readsArguments : cmV yX13_readsArguments cX13_readsArguments 2 none 1 := ⟨kw_133, kw_145, ⟨by decide +kernel, by decide +kernel, by decide +kernel⟩, kw_501, kw_502⟩
def f_X13_readsArguments (N : Nat) (σ : Sm) (x1 : Int) : Option Sm :=
  (f_X13_expect σ 32).bind fun s1 => (if x1 = 1 then (f_X13_readsWalk N s1).bind fun s28 => (if x1 = 3 then (f_X13_expect s28 32).bind fun s30 => (f_X13_number N s30 1).bind fun v31 => (f_X13_put v31.1 1 v31.2).bind fun s32 => some s32 else some s28) else (if x1 = 2 then (f_X13_readsLine N s1).bind fun s23 => (if x1 = 3 then (f_X13_expect s23 32).bind fun s25 => (f_X13_number N s25 1).bind fun v26 => (f_X13_put v26.1 1 v26.2).bind fun s27 => some s27 else some s23) else (if x1 = 11 then (f_X13_readsSale N s1).bind fun s18 => (if x1 = 3 then (f_X13_expect s18 32).bind fun s20 => (f_X13_number N s20 1).bind fun v21 => (f_X13_put v21.1 1 v21.2).bind fun s22 => some s22 else some s18) else (if x1 < 12 then (f_X13_number N s1 1).bind fun v6 => (f_X13_put v6.1 0 v6.2).bind fun s7 => (if x1 = 3 then (f_X13_expect s7 32).bind fun s9 => (f_X13_number N s9 1).bind fun v10 => (f_X13_put v10.1 1 v10.2).bind fun s11 => some s11 else some s7) else (f_X13_number N s1 3).bind fun v12 => (f_X13_put v12.1 0 v12.2).bind fun s13 => (if x1 = 3 then (f_X13_expect s13 32).bind fun s15 => (f_X13_number N s15 1).bind fun v16 => (f_X13_put v16.1 1 v16.2).bind fun s17 => some s17 else some s13)))))
theorem ct_X13_readsArguments {l : Launch} {cy : ClassId} {ad : Nat → Nat} {G : va_G} (N : Nat) (σ : Sm) (x1 : Int) (h1 : rng x1) (hw : wfm σ) (o : Sm) (h : f_X13_readsArguments N σ x1 = some o) : CtV l yX13_readsArguments cX13_readsArguments 2 rm_X13_readsArguments (wlm cy ad) wfm G (tym cy) [.ref (ad 0), vi x1] σ o := by
  refine ctV_of (by decide) (Nat.le_of_ble_eq_true rfl) hw o o h (fun X Y w => EndV X Y cX13_readsArguments rm_X13_readsArguments w) (fun _ _ h => h) (fun X A Q hX C => ?_)
  replace C : Cx X (Ym cy ad G A 2 Q) cX13_readsArguments RX13 none rm_X13_readsArguments (tym cy) := C
  show T X (Ym cy ad G A 2 Q) (fun w => EndV X (Ym cy ad G A 2 Q) cX13_readsArguments rm_X13_readsArguments w) 0 0 0 [(0, .ref (ad 0)), (1, vi x1)] [] σ (f_X13_readsArguments N σ x1)
  unfold f_X13_readsArguments
  refine T_aload_n (pc := 0) C dX13_readsArguments_0 rfl 0 rfl ?_
  refine T_bipush (pc := 1) C dX13_readsArguments_1 (by decide) ?_
  refine T_callVv (pc := 3) C [vi 32] [] (fun o h9 hw => ct_X13_expect σ 32 (rngL rfl) hw o h9) kw_491 cm_X13_expect rcm rfl rfl (Nat.le_of_ble_eq_true rfl) (by decide) (a' := 0) (b' := 0) ⟨rfl, rfl⟩ dX13_readsArguments_3 (fun s1 => ?_)
  refine T_iload_n (pc := 6) C dX13_readsArguments_6 rfl 1 rfl ?_
  refine T_iconst (pc := 7) C dX13_readsArguments_7 ?_
  refine T_icmp_ne (pc := 8) C 18 dX13_readsArguments_8 rfl h1 (rngL rfl) (fun c2 => ?_) (fun c2 => ?_)
  · refine T_iload_n (pc := 18) C dX13_readsArguments_18 rfl 1 rfl ?_
    refine T_iconst (pc := 19) C dX13_readsArguments_19 ?_
    refine T_icmp_ne (pc := 20) C 30 dX13_readsArguments_20 rfl h1 (rngL rfl) (fun c3 => ?_) (fun c3 => ?_)
    · refine T_iload_n (pc := 30) C dX13_readsArguments_30 rfl 1 rfl ?_
      refine T_bipush (pc := 31) C dX13_readsArguments_31 (by decide) ?_
      refine T_icmp_ne (pc := 33) C 43 dX13_readsArguments_33 rfl h1 (rngL rfl) (fun c4 => ?_) (fun c4 => ?_)
      · refine T_aload_n (pc := 43) C dX13_readsArguments_43 rfl 0 rfl ?_
        refine T_iconst (pc := 44) C dX13_readsArguments_44 ?_
        refine T_aload_n (pc := 45) C dX13_readsArguments_45 rfl 0 rfl ?_
        refine T_iload_n (pc := 46) C dX13_readsArguments_46 rfl 1 rfl ?_
        refine T_bipush (pc := 47) C dX13_readsArguments_47 (by decide) ?_
        refine T_icmp_lt (pc := 49) C 56 dX13_readsArguments_49 rfl h1 (rngL rfl) (fun c5 => ?_) (fun c5 => ?_)
        · refine T_iconst (pc := 56) C dX13_readsArguments_56 ?_
          refine T_callVi (pc := 57) C [vi 1] [vi 0, .ref (ad 0)] (fun o h9 hw => ct_X13_number N s1 1 (rngL rfl) hw o h9) kw_489 cm_X13_number rcm rfl rfl (Nat.le_of_ble_eq_true rfl) (by decide) (a' := 0) (b' := 0) ⟨rfl, rfl⟩ dX13_readsArguments_57 (fun v6 hv6 => ?_)
          refine T_callVv (pc := 60) C [vi 0, vi v6.2] [] (fun o h9 hw => ct_X13_put v6.1 0 v6.2 (rngL rfl) hv6.1 hw o h9) kw_490 cm_X13_put rcm rfl rfl (Nat.le_of_ble_eq_true rfl) (by decide) (a' := 0) (b' := 0) ⟨rfl, rfl⟩ dX13_readsArguments_60 (fun s7 => ?_)
          refine T_iload_n (pc := 63) C dX13_readsArguments_63 rfl 1 rfl ?_
          refine T_iconst (pc := 64) C dX13_readsArguments_64 ?_
          refine T_icmp_ne (pc := 65) C 84 dX13_readsArguments_65 rfl h1 (rngL rfl) (fun c8 => ?_) (fun c8 => ?_)
          · exact T_vret (pc := 84) s7 (fun h9 => h9) (by decide) dX13_readsArguments_84
          · refine T_aload_n (pc := 68) C dX13_readsArguments_68 rfl 0 rfl ?_
            refine T_bipush (pc := 69) C dX13_readsArguments_69 (by decide) ?_
            refine T_callVv (pc := 71) C [vi 32] [] (fun o h9 hw => ct_X13_expect s7 32 (rngL rfl) hw o h9) kw_491 cm_X13_expect rcm rfl rfl (Nat.le_of_ble_eq_true rfl) (by decide) (a' := 0) (b' := 0) ⟨rfl, rfl⟩ dX13_readsArguments_71 (fun s9 => ?_)
            refine T_aload_n (pc := 74) C dX13_readsArguments_74 rfl 0 rfl ?_
            refine T_iconst (pc := 75) C dX13_readsArguments_75 ?_
            refine T_aload_n (pc := 76) C dX13_readsArguments_76 rfl 0 rfl ?_
            refine T_iconst (pc := 77) C dX13_readsArguments_77 ?_
            refine T_callVi (pc := 78) C [vi 1] [vi 1, .ref (ad 0)] (fun o h9 hw => ct_X13_number N s9 1 (rngL rfl) hw o h9) kw_489 cm_X13_number rcm rfl rfl (Nat.le_of_ble_eq_true rfl) (by decide) (a' := 0) (b' := 0) ⟨rfl, rfl⟩ dX13_readsArguments_78 (fun v10 hv10 => ?_)
            refine T_callVv (pc := 81) C [vi 1, vi v10.2] [] (fun o h9 hw => ct_X13_put v10.1 1 v10.2 (rngL rfl) hv10.1 hw o h9) kw_490 cm_X13_put rcm rfl rfl (Nat.le_of_ble_eq_true rfl) (by decide) (a' := 0) (b' := 0) ⟨rfl, rfl⟩ dX13_readsArguments_81 (fun s11 => ?_)
            exact T_vret (pc := 84) s11 (fun h9 => h9) (by decide) dX13_readsArguments_84
        · refine T_iconst (pc := 52) C dX13_readsArguments_52 ?_
          refine T_goto (pc := 53) C 57 dX13_readsArguments_53 rfl ?_
          refine T_callVi (pc := 57) C [vi 3] [vi 0, .ref (ad 0)] (fun o h9 hw => ct_X13_number N s1 3 (rngL rfl) hw o h9) kw_489 cm_X13_number rcm rfl rfl (Nat.le_of_ble_eq_true rfl) (by decide) (a' := 0) (b' := 0) ⟨rfl, rfl⟩ dX13_readsArguments_57 (fun v12 hv12 => ?_)
          refine T_callVv (pc := 60) C [vi 0, vi v12.2] [] (fun o h9 hw => ct_X13_put v12.1 0 v12.2 (rngL rfl) hv12.1 hw o h9) kw_490 cm_X13_put rcm rfl rfl (Nat.le_of_ble_eq_true rfl) (by decide) (a' := 0) (b' := 0) ⟨rfl, rfl⟩ dX13_readsArguments_60 (fun s13 => ?_)
          refine T_iload_n (pc := 63) C dX13_readsArguments_63 rfl 1 rfl ?_
          refine T_iconst (pc := 64) C dX13_readsArguments_64 ?_
          refine T_icmp_ne (pc := 65) C 84 dX13_readsArguments_65 rfl h1 (rngL rfl) (fun c14 => ?_) (fun c14 => ?_)
          · exact T_vret (pc := 84) s13 (fun h9 => h9) (by decide) dX13_readsArguments_84
          · refine T_aload_n (pc := 68) C dX13_readsArguments_68 rfl 0 rfl ?_
            refine T_bipush (pc := 69) C dX13_readsArguments_69 (by decide) ?_
            refine T_callVv (pc := 71) C [vi 32] [] (fun o h9 hw => ct_X13_expect s13 32 (rngL rfl) hw o h9) kw_491 cm_X13_expect rcm rfl rfl (Nat.le_of_ble_eq_true rfl) (by decide) (a' := 0) (b' := 0) ⟨rfl, rfl⟩ dX13_readsArguments_71 (fun s15 => ?_)
            refine T_aload_n (pc := 74) C dX13_readsArguments_74 rfl 0 rfl ?_
            refine T_iconst (pc := 75) C dX13_readsArguments_75 ?_
            refine T_aload_n (pc := 76) C dX13_readsArguments_76 rfl 0 rfl ?_
            refine T_iconst (pc := 77) C dX13_readsArguments_77 ?_
            refine T_callVi (pc := 78) C [vi 1] [vi 1, .ref (ad 0)] (fun o h9 hw => ct_X13_number N s15 1 (rngL rfl) hw o h9) kw_489 cm_X13_number rcm rfl rfl (Nat.le_of_ble_eq_true rfl) (by decide) (a' := 0) (b' := 0) ⟨rfl, rfl⟩ dX13_readsArguments_78 (fun v16 hv16 => ?_)
            refine T_callVv (pc := 81) C [vi 1, vi v16.2] [] (fun o h9 hw => ct_X13_put v16.1 1 v16.2 (rngL rfl) hv16.1 hw o h9) kw_490 cm_X13_put rcm rfl rfl (Nat.le_of_ble_eq_true rfl) (by decide) (a' := 0) (b' := 0) ⟨rfl, rfl⟩ dX13_readsArguments_81 (fun s17 => ?_)
            exact T_vret (pc := 84) s17 (fun h9 => h9) (by decide) dX13_readsArguments_84
      · refine T_aload_n (pc := 36) C dX13_readsArguments_36 rfl 0 rfl ?_
        refine T_callVv (pc := 37) C [] [] (fun o h9 hw => ct_X13_readsSale N s1 hw o h9) kw_498 cm_X13_readsSale rcm rfl rfl (Nat.le_of_ble_eq_true rfl) (by decide) (a' := 0) (b' := 0) ⟨rfl, rfl⟩ dX13_readsArguments_37 (fun s18 => ?_)
        refine T_goto (pc := 40) C 63 dX13_readsArguments_40 rfl ?_
        refine T_iload_n (pc := 63) C dX13_readsArguments_63 rfl 1 rfl ?_
        refine T_iconst (pc := 64) C dX13_readsArguments_64 ?_
        refine T_icmp_ne (pc := 65) C 84 dX13_readsArguments_65 rfl h1 (rngL rfl) (fun c19 => ?_) (fun c19 => ?_)
        · exact T_vret (pc := 84) s18 (fun h9 => h9) (by decide) dX13_readsArguments_84
        · refine T_aload_n (pc := 68) C dX13_readsArguments_68 rfl 0 rfl ?_
          refine T_bipush (pc := 69) C dX13_readsArguments_69 (by decide) ?_
          refine T_callVv (pc := 71) C [vi 32] [] (fun o h9 hw => ct_X13_expect s18 32 (rngL rfl) hw o h9) kw_491 cm_X13_expect rcm rfl rfl (Nat.le_of_ble_eq_true rfl) (by decide) (a' := 0) (b' := 0) ⟨rfl, rfl⟩ dX13_readsArguments_71 (fun s20 => ?_)
          refine T_aload_n (pc := 74) C dX13_readsArguments_74 rfl 0 rfl ?_
          refine T_iconst (pc := 75) C dX13_readsArguments_75 ?_
          refine T_aload_n (pc := 76) C dX13_readsArguments_76 rfl 0 rfl ?_
          refine T_iconst (pc := 77) C dX13_readsArguments_77 ?_
          refine T_callVi (pc := 78) C [vi 1] [vi 1, .ref (ad 0)] (fun o h9 hw => ct_X13_number N s20 1 (rngL rfl) hw o h9) kw_489 cm_X13_number rcm rfl rfl (Nat.le_of_ble_eq_true rfl) (by decide) (a' := 0) (b' := 0) ⟨rfl, rfl⟩ dX13_readsArguments_78 (fun v21 hv21 => ?_)
          refine T_callVv (pc := 81) C [vi 1, vi v21.2] [] (fun o h9 hw => ct_X13_put v21.1 1 v21.2 (rngL rfl) hv21.1 hw o h9) kw_490 cm_X13_put rcm rfl rfl (Nat.le_of_ble_eq_true rfl) (by decide) (a' := 0) (b' := 0) ⟨rfl, rfl⟩ dX13_readsArguments_81 (fun s22 => ?_)
          exact T_vret (pc := 84) s22 (fun h9 => h9) (by decide) dX13_readsArguments_84
    · refine T_aload_n (pc := 23) C dX13_readsArguments_23 rfl 0 rfl ?_
      refine T_callVv (pc := 24) C [] [] (fun o h9 hw => ct_X13_readsLine N s1 hw o h9) kw_499 cm_X13_readsLine rcm rfl rfl (Nat.le_of_ble_eq_true rfl) (by decide) (a' := 0) (b' := 0) ⟨rfl, rfl⟩ dX13_readsArguments_24 (fun s23 => ?_)
      refine T_goto (pc := 27) C 63 dX13_readsArguments_27 rfl ?_
      refine T_iload_n (pc := 63) C dX13_readsArguments_63 rfl 1 rfl ?_
      refine T_iconst (pc := 64) C dX13_readsArguments_64 ?_
      refine T_icmp_ne (pc := 65) C 84 dX13_readsArguments_65 rfl h1 (rngL rfl) (fun c24 => ?_) (fun c24 => ?_)
      · exact T_vret (pc := 84) s23 (fun h9 => h9) (by decide) dX13_readsArguments_84
      · refine T_aload_n (pc := 68) C dX13_readsArguments_68 rfl 0 rfl ?_
        refine T_bipush (pc := 69) C dX13_readsArguments_69 (by decide) ?_
        refine T_callVv (pc := 71) C [vi 32] [] (fun o h9 hw => ct_X13_expect s23 32 (rngL rfl) hw o h9) kw_491 cm_X13_expect rcm rfl rfl (Nat.le_of_ble_eq_true rfl) (by decide) (a' := 0) (b' := 0) ⟨rfl, rfl⟩ dX13_readsArguments_71 (fun s25 => ?_)
        refine T_aload_n (pc := 74) C dX13_readsArguments_74 rfl 0 rfl ?_
        refine T_iconst (pc := 75) C dX13_readsArguments_75 ?_
        refine T_aload_n (pc := 76) C dX13_readsArguments_76 rfl 0 rfl ?_
        refine T_iconst (pc := 77) C dX13_readsArguments_77 ?_
        refine T_callVi (pc := 78) C [vi 1] [vi 1, .ref (ad 0)] (fun o h9 hw => ct_X13_number N s25 1 (rngL rfl) hw o h9) kw_489 cm_X13_number rcm rfl rfl (Nat.le_of_ble_eq_true rfl) (by decide) (a' := 0) (b' := 0) ⟨rfl, rfl⟩ dX13_readsArguments_78 (fun v26 hv26 => ?_)
        refine T_callVv (pc := 81) C [vi 1, vi v26.2] [] (fun o h9 hw => ct_X13_put v26.1 1 v26.2 (rngL rfl) hv26.1 hw o h9) kw_490 cm_X13_put rcm rfl rfl (Nat.le_of_ble_eq_true rfl) (by decide) (a' := 0) (b' := 0) ⟨rfl, rfl⟩ dX13_readsArguments_81 (fun s27 => ?_)
        exact T_vret (pc := 84) s27 (fun h9 => h9) (by decide) dX13_readsArguments_84
  · refine T_aload_n (pc := 11) C dX13_readsArguments_11 rfl 0 rfl ?_
    refine T_callVv (pc := 12) C [] [] (fun o h9 hw => ct_X13_readsWalk N s1 hw o h9) kw_500 cm_X13_readsWalk rcm rfl rfl (Nat.le_of_ble_eq_true rfl) (by decide) (a' := 0) (b' := 0) ⟨rfl, rfl⟩ dX13_readsArguments_12 (fun s28 => ?_)
    refine T_goto (pc := 15) C 63 dX13_readsArguments_15 rfl ?_
    refine T_iload_n (pc := 63) C dX13_readsArguments_63 rfl 1 rfl ?_
    refine T_iconst (pc := 64) C dX13_readsArguments_64 ?_
    refine T_icmp_ne (pc := 65) C 84 dX13_readsArguments_65 rfl h1 (rngL rfl) (fun c29 => ?_) (fun c29 => ?_)
    · exact T_vret (pc := 84) s28 (fun h9 => h9) (by decide) dX13_readsArguments_84
    · refine T_aload_n (pc := 68) C dX13_readsArguments_68 rfl 0 rfl ?_
      refine T_bipush (pc := 69) C dX13_readsArguments_69 (by decide) ?_
      refine T_callVv (pc := 71) C [vi 32] [] (fun o h9 hw => ct_X13_expect s28 32 (rngL rfl) hw o h9) kw_491 cm_X13_expect rcm rfl rfl (Nat.le_of_ble_eq_true rfl) (by decide) (a' := 0) (b' := 0) ⟨rfl, rfl⟩ dX13_readsArguments_71 (fun s30 => ?_)
      refine T_aload_n (pc := 74) C dX13_readsArguments_74 rfl 0 rfl ?_
      refine T_iconst (pc := 75) C dX13_readsArguments_75 ?_
      refine T_aload_n (pc := 76) C dX13_readsArguments_76 rfl 0 rfl ?_
      refine T_iconst (pc := 77) C dX13_readsArguments_77 ?_
      refine T_callVi (pc := 78) C [vi 1] [vi 1, .ref (ad 0)] (fun o h9 hw => ct_X13_number N s30 1 (rngL rfl) hw o h9) kw_489 cm_X13_number rcm rfl rfl (Nat.le_of_ble_eq_true rfl) (by decide) (a' := 0) (b' := 0) ⟨rfl, rfl⟩ dX13_readsArguments_78 (fun v31 hv31 => ?_)
      refine T_callVv (pc := 81) C [vi 1, vi v31.2] [] (fun o h9 hw => ct_X13_put v31.1 1 v31.2 (rngL rfl) hv31.1 hw o h9) kw_490 cm_X13_put rcm rfl rfl (Nat.le_of_ble_eq_true rfl) (by decide) (a' := 0) (b' := 0) ⟨rfl, rfl⟩ dX13_readsArguments_81 (fun s32 => ?_)
      exact T_vret (pc := 84) s32 (fun h9 => h9) (by decide) dX13_readsArguments_84

abbrev rm_X13_command : Room := ⟨4, 0, 0, 86⟩
theorem cm_X13_command : cmV yX13_command cX13_command 2 none 0 := ⟨kw_134, kw_145, ⟨by decide +kernel, by decide +kernel, by decide +kernel⟩, kw_506, kw_507⟩
def f_X13_command (N : Nat) (σ : Sm) : Option Sm :=
  (f_X13_word N σ).bind fun v1 => (if v1.2 = 5 then (if (v1.1 21 0) = 0 then if 0 ≤ (v1.1 20 0) ∧ (v1.1 20 0) < 32 then bl (upm v1.1 9 (v1.1 20 0).toNat v1.2) fun s7 => if rng ((s7 20 0) + 1) then bl (upm s7 20 0 ((s7 20 0) + 1)) fun s10 => some s10 else none else none else some v1.1) else (if v1.2 = 6 then (if (v1.1 21 0) = 0 then if 0 ≤ (v1.1 20 0) ∧ (v1.1 20 0) < 32 then bl (upm v1.1 9 (v1.1 20 0).toNat v1.2) fun s16 => if rng ((s16 20 0) + 1) then bl (upm s16 20 0 ((s16 20 0) + 1)) fun s19 => some s19 else none else none else some v1.1) else (f_X13_readsArguments N v1.1 v1.2).bind fun s20 => (if (s20 21 0) = 0 then if 0 ≤ (s20 20 0) ∧ (s20 20 0) < 32 then bl (upm s20 9 (s20 20 0).toNat v1.2) fun s25 => if rng ((s25 20 0) + 1) then bl (upm s25 20 0 ((s25 20 0) + 1)) fun s28 => some s28 else none else none else some s20)))
theorem ct_X13_command {l : Launch} {cy : ClassId} {ad : Nat → Nat} {G : va_G} (N : Nat) (σ : Sm) (hw : wfm σ) (o : Sm) (h : f_X13_command N σ = some o) : CtV l yX13_command cX13_command 2 rm_X13_command (wlm cy ad) wfm G (tym cy) [.ref (ad 0)] σ o := by
  refine ctV_of (by decide) (Nat.le_of_ble_eq_true rfl) hw o o h (fun X Y w => EndV X Y cX13_command rm_X13_command w) (fun _ _ h => h) (fun X A Q hX C => ?_)
  replace C : Cx X (Ym cy ad G A 2 Q) cX13_command RX13 none rm_X13_command (tym cy) := C
  show T X (Ym cy ad G A 2 Q) (fun w => EndV X (Ym cy ad G A 2 Q) cX13_command rm_X13_command w) 0 0 0 [(0, .ref (ad 0))] [] σ (f_X13_command N σ)
  unfold f_X13_command
  refine T_aload_n (pc := 0) C dX13_command_0 rfl 0 rfl ?_
  refine T_callVi (pc := 1) C [] [] (fun o h9 hw => ct_X13_word N σ hw o h9) kw_503 cm_X13_word rcm rfl rfl (Nat.le_of_ble_eq_true rfl) (by decide) (a' := 0) (b' := 0) ⟨rfl, rfl⟩ dX13_command_1 (fun v1 hv1 => ?_)
  refine T_istore_n (pc := 4) (L' := [(1, vi v1.2), (0, .ref (ad 0))]) C dX13_command_4 rfl (Nat.le_of_ble_eq_true rfl) rfl ?_
  refine T_iload_n (pc := 5) C dX13_command_5 rfl 0 rfl ?_
  refine T_iconst (pc := 6) C dX13_command_6 ?_
  refine T_icmp_eq (pc := 7) C 21 dX13_command_7 rfl hv1.1 (rngL rfl) (fun c2 => ?_) (fun c2 => ?_)
  · refine T_aload_n (pc := 21) C dX13_command_21 rfl 1 rfl ?_
    refine Tm_get (pc := 22) C 21 ⟨by decide, by decide⟩ kw_469 dX13_command_22 (fun r3 => ?_)
    refine T_if_eq (pc := 25) C 29 dX13_command_25 rfl r3 (fun c4 => ?_) (fun c4 => ?_)
    · refine T_aload_n (pc := 29) C dX13_command_29 rfl 1 rfl ?_
      refine Tm_getA (pc := 30) C 14 9 (by decide) (fun _ => rfl) kw_504 rfl dX13_command_30 ?_
      refine T_aload_n (pc := 33) C dX13_command_33 rfl 1 rfl ?_
      refine Tm_get (pc := 34) C 20 ⟨by decide, by decide⟩ kw_486 dX13_command_34 (fun r5 => ?_)
      refine T_iload_n (pc := 37) C dX13_command_37 rfl 0 rfl ?_
      refine T_guard (fun g6 => ?_)
      refine Tm_iast (pc := 38) C 9 (v1.1 20 0).toNat ⟨by decide, by decide⟩ g6 rfl hv1.1 dX13_command_38 ?_
      refine T_blS (fun s7 => ?_)
      refine T_aload_n (pc := 39) C dX13_command_39 rfl 1 rfl ?_
      refine T_dup (pc := 40) C dX13_command_40 rfl ?_
      refine Tm_get (pc := 41) C 20 ⟨by decide, by decide⟩ kw_486 dX13_command_41 (fun r8 => ?_)
      refine T_iconst (pc := 44) C dX13_command_44 ?_
      refine T_iadd (pc := 45) C dX13_command_45 ?_
      refine T_guard (fun g9 => ?_)
      refine Tm_put (pc := 46) C (ty := .int) 20 ⟨by decide, by decide⟩ g9 kw_486 rfl (nar_I _) (fit_I _) dX13_command_46 ?_
      refine T_blS (fun s10 => ?_)
      exact T_vret (pc := 49) s10 (fun h9 => h9) (by decide) dX13_command_49
    · exact T_vret (pc := 28) v1.1 (fun h9 => h9) (by decide) dX13_command_28
  · refine T_iload_n (pc := 10) C dX13_command_10 rfl 0 rfl ?_
    refine T_bipush (pc := 11) C dX13_command_11 (by decide) ?_
    refine T_icmp_eq (pc := 13) C 21 dX13_command_13 rfl hv1.1 (rngL rfl) (fun c11 => ?_) (fun c11 => ?_)
    · refine T_aload_n (pc := 21) C dX13_command_21 rfl 1 rfl ?_
      refine Tm_get (pc := 22) C 21 ⟨by decide, by decide⟩ kw_469 dX13_command_22 (fun r12 => ?_)
      refine T_if_eq (pc := 25) C 29 dX13_command_25 rfl r12 (fun c13 => ?_) (fun c13 => ?_)
      · refine T_aload_n (pc := 29) C dX13_command_29 rfl 1 rfl ?_
        refine Tm_getA (pc := 30) C 14 9 (by decide) (fun _ => rfl) kw_504 rfl dX13_command_30 ?_
        refine T_aload_n (pc := 33) C dX13_command_33 rfl 1 rfl ?_
        refine Tm_get (pc := 34) C 20 ⟨by decide, by decide⟩ kw_486 dX13_command_34 (fun r14 => ?_)
        refine T_iload_n (pc := 37) C dX13_command_37 rfl 0 rfl ?_
        refine T_guard (fun g15 => ?_)
        refine Tm_iast (pc := 38) C 9 (v1.1 20 0).toNat ⟨by decide, by decide⟩ g15 rfl hv1.1 dX13_command_38 ?_
        refine T_blS (fun s16 => ?_)
        refine T_aload_n (pc := 39) C dX13_command_39 rfl 1 rfl ?_
        refine T_dup (pc := 40) C dX13_command_40 rfl ?_
        refine Tm_get (pc := 41) C 20 ⟨by decide, by decide⟩ kw_486 dX13_command_41 (fun r17 => ?_)
        refine T_iconst (pc := 44) C dX13_command_44 ?_
        refine T_iadd (pc := 45) C dX13_command_45 ?_
        refine T_guard (fun g18 => ?_)
        refine Tm_put (pc := 46) C (ty := .int) 20 ⟨by decide, by decide⟩ g18 kw_486 rfl (nar_I _) (fit_I _) dX13_command_46 ?_
        refine T_blS (fun s19 => ?_)
        exact T_vret (pc := 49) s19 (fun h9 => h9) (by decide) dX13_command_49
      · exact T_vret (pc := 28) v1.1 (fun h9 => h9) (by decide) dX13_command_28
    · refine T_aload_n (pc := 16) C dX13_command_16 rfl 1 rfl ?_
      refine T_iload_n (pc := 17) C dX13_command_17 rfl 0 rfl ?_
      refine T_callVv (pc := 18) C [vi v1.2] [] (fun o h9 hw => ct_X13_readsArguments N v1.1 v1.2 hv1.1 hw o h9) kw_505 cm_X13_readsArguments rcm rfl rfl (Nat.le_of_ble_eq_true rfl) (by decide) (a' := 0) (b' := 0) ⟨rfl, rfl⟩ dX13_command_18 (fun s20 => ?_)
      refine T_aload_n (pc := 21) C dX13_command_21 rfl 1 rfl ?_
      refine Tm_get (pc := 22) C 21 ⟨by decide, by decide⟩ kw_469 dX13_command_22 (fun r21 => ?_)
      refine T_if_eq (pc := 25) C 29 dX13_command_25 rfl r21 (fun c22 => ?_) (fun c22 => ?_)
      · refine T_aload_n (pc := 29) C dX13_command_29 rfl 1 rfl ?_
        refine Tm_getA (pc := 30) C 14 9 (by decide) (fun _ => rfl) kw_504 rfl dX13_command_30 ?_
        refine T_aload_n (pc := 33) C dX13_command_33 rfl 1 rfl ?_
        refine Tm_get (pc := 34) C 20 ⟨by decide, by decide⟩ kw_486 dX13_command_34 (fun r23 => ?_)
        refine T_iload_n (pc := 37) C dX13_command_37 rfl 0 rfl ?_
        refine T_guard (fun g24 => ?_)
        refine Tm_iast (pc := 38) C 9 (s20 20 0).toNat ⟨by decide, by decide⟩ g24 rfl hv1.1 dX13_command_38 ?_
        refine T_blS (fun s25 => ?_)
        refine T_aload_n (pc := 39) C dX13_command_39 rfl 1 rfl ?_
        refine T_dup (pc := 40) C dX13_command_40 rfl ?_
        refine Tm_get (pc := 41) C 20 ⟨by decide, by decide⟩ kw_486 dX13_command_41 (fun r26 => ?_)
        refine T_iconst (pc := 44) C dX13_command_44 ?_
        refine T_iadd (pc := 45) C dX13_command_45 ?_
        refine T_guard (fun g27 => ?_)
        refine Tm_put (pc := 46) C (ty := .int) 20 ⟨by decide, by decide⟩ g27 kw_486 rfl (nar_I _) (fit_I _) dX13_command_46 ?_
        refine T_blS (fun s28 => ?_)
        exact T_vret (pc := 49) s28 (fun h9 => h9) (by decide) dX13_command_49
      · exact T_vret (pc := 28) s20 (fun h9 => h9) (by decide) dX13_command_28

abbrev rm_X13_parse : Room := ⟨5, 0, 0, 107⟩
theorem cm_X13_parse : cmV yX13_parse cX13_parse 1 none 0 := ⟨kw_135, kw_145, ⟨by decide +kernel, by decide +kernel, by decide +kernel⟩, kw_509, kw_510⟩
def f_X13_parse_32 (N : Nat) : Nat → Sm → Option (Sm)
  | 0, _ => none
  | n + 1, s0 => (f_X13_mark s0).bind fun v8 => (if v8 = 59 then if rng ((s0 19 0) + 1) then bl (upm s0 19 0 ((s0 19 0) + 1)) fun s12 => (f_X13_command N s12).bind fun s13 => f_X13_parse_32 N n s13 else none else some s0)
theorem lp_X13_parse_32 {X : vjX} {A : Nat → Prop} {Q : State → Prop} {cy : ClassId} {ad : Nat → Nat} {G : va_G} (C : Cx X (Ym cy ad G A 1 Q) cX13_parse RX13 none rm_X13_parse (tym cy)) (N : Nat) : ∀ (n : Nat) (s0 : Sm) , T X (Ym cy ad G A 1 Q) (fun (q : Sm) => True → J X (Ym cy ad G A 1 Q) 0 0 58 [(0, .ref (ad 0))] [] q) 0 0 32 [(0, .ref (ad 0))] [] s0 (f_X13_parse_32 N n s0) := by
  intro n
  induction n with
  | zero => intro s0; exact T_none
  | succ n ih =>
    intro s0
    rw [f_X13_parse_32]
    refine T_aload_n (pc := 32) C dX13_parse_32 rfl 0 rfl ?_
    refine T_callVip (pc := 33) C [] [] (fun o h9 hw => ct_X13_mark s0 hw o h9) kw_474 cm_X13_mark rcm rfl rfl (Nat.le_of_ble_eq_true rfl) (by decide) (a' := 0) (b' := 0) ⟨rfl, rfl⟩ dX13_parse_33 (fun v8 hv8 => ?_)
    refine T_bipush (pc := 36) C dX13_parse_36 (by decide) ?_
    refine T_icmp_ne (pc := 38) C 58 dX13_parse_38 rfl hv8.1 (rngL rfl) (fun c9 => ?_) (fun c9 => ?_)
    · exact T_exit (fun h9 => h9 trivial)
    · refine T_aload_n (pc := 41) C dX13_parse_41 rfl 0 rfl ?_
      refine T_dup (pc := 42) C dX13_parse_42 rfl ?_
      refine Tm_get (pc := 43) C 19 ⟨by decide, by decide⟩ kw_470 dX13_parse_43 (fun r10 => ?_)
      refine T_iconst (pc := 46) C dX13_parse_46 ?_
      refine T_iadd (pc := 47) C dX13_parse_47 ?_
      refine T_guard (fun g11 => ?_)
      refine Tm_put (pc := 48) C (ty := .int) 19 ⟨by decide, by decide⟩ g11 kw_470 rfl (nar_I _) (fit_I _) dX13_parse_48 ?_
      refine T_blS (fun s12 => ?_)
      refine T_aload_n (pc := 51) C dX13_parse_51 rfl 0 rfl ?_
      refine T_callVv (pc := 52) C [] [] (fun o h9 hw => ct_X13_command N s12 hw o h9) kw_508 cm_X13_command rcm rfl rfl (Nat.le_of_ble_eq_true rfl) (by decide) (a' := 0) (b' := 0) ⟨rfl, rfl⟩ dX13_parse_52 (fun s13 => ?_)
      refine T_goto (pc := 55) C 32 dX13_parse_55 rfl ?_
      exact ih s13
def f_X13_parse (N : Nat) (σ : Sm) : Option Sm :=
  bl (upm σ 18 0 (σ 17 0)) fun s2 => bl (upm s2 17 0 0) fun s3 => bl (upm s3 19 0 0) fun s4 => bl (upm s4 20 0 0) fun s5 => bl (upm s5 21 0 0) fun s6 => (f_X13_command N s6).bind fun s7 => (f_X13_parse_32 N N s7).bind fun q14 => (if (q14 18 0) ≤ (q14 19 0) then if 0 ≤ (q14 21 0) then if bit (ior (q14 21 0) 0) then bl (upm q14 21 0 (ior (q14 21 0) 0)) fun s21 => some s21 else none else none else if 0 ≤ (q14 21 0) then if bit (ior (q14 21 0) 1) then bl (upm q14 21 0 (ior (q14 21 0) 1)) fun s24 => some s24 else none else none)
theorem ct_X13_parse {l : Launch} {cy : ClassId} {ad : Nat → Nat} {G : va_G} (N : Nat) (σ : Sm) (hw : wfm σ) (o : Sm) (h : f_X13_parse N σ = some o) : CtV l yX13_parse cX13_parse 1 rm_X13_parse (wlm cy ad) wfm G (tym cy) [.ref (ad 0)] σ o := by
  refine ctV_of (by decide) (Nat.le_of_ble_eq_true rfl) hw o o h (fun X Y w => EndV X Y cX13_parse rm_X13_parse w) (fun _ _ h => h) (fun X A Q hX C => ?_)
  replace C : Cx X (Ym cy ad G A 1 Q) cX13_parse RX13 none rm_X13_parse (tym cy) := C
  show T X (Ym cy ad G A 1 Q) (fun w => EndV X (Ym cy ad G A 1 Q) cX13_parse rm_X13_parse w) 0 0 0 [(0, .ref (ad 0))] [] σ (f_X13_parse N σ)
  unfold f_X13_parse
  refine T_aload_n (pc := 0) C dX13_parse_0 rfl 0 rfl ?_
  refine T_aload_n (pc := 1) C dX13_parse_1 rfl 0 rfl ?_
  refine Tm_get (pc := 2) C 17 ⟨by decide, by decide⟩ kw_465 dX13_parse_2 (fun r1 => ?_)
  refine Tm_put (pc := 5) C (ty := .int) 18 ⟨by decide, by decide⟩ r1 kw_471 rfl (nar_I _) (fit_I _) dX13_parse_5 ?_
  refine T_blS (fun s2 => ?_)
  refine T_aload_n (pc := 8) C dX13_parse_8 rfl 0 rfl ?_
  refine T_iconst (pc := 9) C dX13_parse_9 ?_
  refine Tm_put (pc := 10) C (ty := .int) 17 ⟨by decide, by decide⟩ (rngL rfl) kw_465 rfl (nar_I _) (fit_I _) dX13_parse_10 ?_
  refine T_blS (fun s3 => ?_)
  refine T_aload_n (pc := 13) C dX13_parse_13 rfl 0 rfl ?_
  refine T_iconst (pc := 14) C dX13_parse_14 ?_
  refine Tm_put (pc := 15) C (ty := .int) 19 ⟨by decide, by decide⟩ (rngL rfl) kw_470 rfl (nar_I _) (fit_I _) dX13_parse_15 ?_
  refine T_blS (fun s4 => ?_)
  refine T_aload_n (pc := 18) C dX13_parse_18 rfl 0 rfl ?_
  refine T_iconst (pc := 19) C dX13_parse_19 ?_
  refine Tm_put (pc := 20) C (ty := .int) 20 ⟨by decide, by decide⟩ (rngL rfl) kw_486 rfl (nar_I _) (fit_I _) dX13_parse_20 ?_
  refine T_blS (fun s5 => ?_)
  refine T_aload_n (pc := 23) C dX13_parse_23 rfl 0 rfl ?_
  refine T_iconst (pc := 24) C dX13_parse_24 ?_
  refine Tm_put (pc := 25) C (ty := .boolean) 21 ⟨by decide, by decide⟩ (rngL rfl) kw_469 rfl (nar_Z (Or.inl rfl)) (fit_Z (Or.inl rfl)) dX13_parse_25 ?_
  refine T_blS (fun s6 => ?_)
  refine T_aload_n (pc := 28) C dX13_parse_28 rfl 0 rfl ?_
  refine T_callVv (pc := 29) C [] [] (fun o h9 hw => ct_X13_command N s6 hw o h9) kw_508 cm_X13_command rcm rfl rfl (Nat.le_of_ble_eq_true rfl) (by decide) (a' := 0) (b' := 0) ⟨rfl, rfl⟩ dX13_parse_29 (fun s7 => ?_)
  refine T_loopE (lp_X13_parse_32 C N N s7) (fun q14 hq14 => ?_)
  refine T_aload_n (pc := 58) C dX13_parse_58 rfl 0 rfl ?_
  refine T_dup (pc := 59) C dX13_parse_59 rfl ?_
  refine Tm_get (pc := 60) C 21 ⟨by decide, by decide⟩ kw_469 dX13_parse_60 (fun r15 => ?_)
  refine T_aload_n (pc := 63) C dX13_parse_63 rfl 0 rfl ?_
  refine Tm_get (pc := 64) C 19 ⟨by decide, by decide⟩ kw_470 dX13_parse_64 (fun r16 => ?_)
  refine T_aload_n (pc := 67) C dX13_parse_67 rfl 0 rfl ?_
  refine Tm_get (pc := 68) C 18 ⟨by decide, by decide⟩ kw_471 dX13_parse_68 (fun r17 => ?_)
  refine T_icmp_ge (pc := 71) C 78 dX13_parse_71 rfl r16 r17 (fun c18 => ?_) (fun c18 => ?_)
  · refine T_iconst (pc := 78) C dX13_parse_78 ?_
    refine T_guard (fun g19 => ?_)
    refine T_ior (pc := 79) C g19 (by decide) dX13_parse_79 ?_
    refine T_guard (fun g20 => ?_)
    refine Tm_put (pc := 80) C (ty := .boolean) 21 ⟨by decide, by decide⟩ (ior_rng r15 (rngL rfl) g19 (by decide)) kw_469 rfl (nar_Z g20) (fit_Z g20) dX13_parse_80 ?_
    refine T_blS (fun s21 => ?_)
    exact T_vret (pc := 83) s21 (fun h9 => h9) (by decide) dX13_parse_83
  · refine T_iconst (pc := 74) C dX13_parse_74 ?_
    refine T_goto (pc := 75) C 79 dX13_parse_75 rfl ?_
    refine T_guard (fun g22 => ?_)
    refine T_ior (pc := 79) C g22 (by decide) dX13_parse_79 ?_
    refine T_guard (fun g23 => ?_)
    refine Tm_put (pc := 80) C (ty := .boolean) 21 ⟨by decide, by decide⟩ (ior_rng r15 (rngL rfl) g22 (by decide)) kw_469 rfl (nar_Z g23) (fit_Z g23) dX13_parse_80 ?_
    refine T_blS (fun s24 => ?_)
    exact T_vret (pc := 83) s24 (fun h9 => h9) (by decide) dX13_parse_83

abbrev rm_X13_cannot : Room := ⟨5, 0, 0, 111⟩
theorem cm_X13_cannot : cmV yX13_cannot cX13_cannot 7 (some .boolean) 5 := ⟨kw_136, kw_145, ⟨by decide +kernel, by decide +kernel, by decide +kernel⟩, kw_511, kw_512⟩
def f_X13_cannot (N : Nat) (σ : Sm) (x1 : Int) (x2 : Int) (x3 : Int) (x4 : Int) (x5 : Int) : Option (Sm × Int) :=
  (if x1 = 0 then (f_X13_cannotAddStop σ x2).bind fun v2 => (if v2 ≤ 0 then (f_X13_addsStop σ x2).bind fun v4 => some (v4.1, 0) else some (σ, 1)) else (if x1 = 1 then (f_X13_cannotWalk σ x2 x3 x4).bind fun v6 => (if v6 ≤ 0 then (f_X13_addsWalk σ x2 x3 x4).bind fun v8 => some (v8.1, 0) else some (σ, 1)) else (if x1 = 2 then (f_X13_cannotAddLine σ x2 x3 x4 x5).bind fun v10 => (if v10 ≤ 0 then (f_X13_addsLine σ x2 x3 x4 x5).bind fun v12 => some (v12.1, 0) else some (σ, 1)) else (if x1 = 3 then (f_X13_cannotExtend N σ x2 x3).bind fun v14 => (if v14 ≤ 0 then (f_X13_extend σ x2 x3).bind fun v16 => some (v16.1, 0) else some (σ, 1)) else (if x1 = 4 then (f_X13_cannotShorten N σ x2).bind fun v18 => (if v18 ≤ 0 then (f_X13_shorten σ x2).bind fun v20 => some (v20.1, 0) else some (σ, 1)) else (if x1 = 5 then (if x1 = 5 then (f_X13_flag σ 6 1).bind fun v24 => some (v24.1, 0) else (f_X13_flag σ 6 0).bind fun v23 => some (v23.1, 0)) else (if x1 = 6 then (if x1 = 5 then (f_X13_flag σ 6 1).bind fun v28 => some (v28.1, 0) else (f_X13_flag σ 6 0).bind fun v27 => some (v27.1, 0)) else (if x1 = 7 then (f_X13_isStop σ x2).bind fun v30 => (if v30 = 0 then some (σ, 1) else (if x1 = 7 then if rng ((12 + (2 * x2)) + 1) then (f_X13_flag σ ((12 + (2 * x2)) + 1) 1).bind fun v36 => some (v36.1, 0) else none else if rng ((12 + (2 * x2)) + 1) then (f_X13_flag σ ((12 + (2 * x2)) + 1) 0).bind fun v34 => some (v34.1, 0) else none)) else (if x1 = 8 then (f_X13_isStop σ x2).bind fun v38 => (if v38 = 0 then some (σ, 1) else (if x1 = 7 then if rng ((12 + (2 * x2)) + 1) then (f_X13_flag σ ((12 + (2 * x2)) + 1) 1).bind fun v44 => some (v44.1, 0) else none else if rng ((12 + (2 * x2)) + 1) then (f_X13_flag σ ((12 + (2 * x2)) + 1) 0).bind fun v42 => some (v42.1, 0) else none)) else (if x1 = 9 then (f_X13_isLine σ x2).bind fun v46 => (if v46 = 0 then some (σ, 1) else (if x1 = 9 then if rng ((132 + (16 * x2)) + 6) then (f_X13_flag σ ((132 + (16 * x2)) + 6) 1).bind fun v52 => some (v52.1, 0) else none else if rng ((132 + (16 * x2)) + 6) then (f_X13_flag σ ((132 + (16 * x2)) + 6) 0).bind fun v50 => some (v50.1, 0) else none)) else (if x1 = 10 then (f_X13_isLine σ x2).bind fun v54 => (if v54 = 0 then some (σ, 1) else (if x1 = 9 then if rng ((132 + (16 * x2)) + 6) then (f_X13_flag σ ((132 + (16 * x2)) + 6) 1).bind fun v60 => some (v60.1, 0) else none else if rng ((132 + (16 * x2)) + 6) then (f_X13_flag σ ((132 + (16 * x2)) + 6) 0).bind fun v58 => some (v58.1, 0) else none)) else (if x1 = 11 then (f_X13_cannotSell N σ x2 x3 x4 x5).bind fun v62 => (if v62 ≤ 0 then (f_X13_sells σ x2 x3 x4 x5).bind fun v64 => some (v64.1, 0) else some (σ, 1)) else (if x1 = 12 then (f_X13_ticket N σ x2).bind fun v66 => (if 0 ≤ v66 then (f_X13_refunds N σ x2).bind fun v68 => some (v68.1, 0) else some (σ, 1)) else (f_X13_in x2 1 120).bind fun v69 => (if v69 = 0 then some (σ, 1) else (f_X13_advances N σ x2).bind fun v71 => some (v71.1, 0)))))))))))))))
theorem ct_X13_cannot {l : Launch} {cy : ClassId} {ad : Nat → Nat} {G : va_G} (N : Nat) (σ : Sm) (x1 : Int) (x2 : Int) (x3 : Int) (x4 : Int) (x5 : Int) (h1 : rng x1) (h2 : rng x2) (h3 : rng x3) (h4 : rng x4) (h5 : rng x5) (hw : wfm σ) (o : Sm × Int) (h : f_X13_cannot N σ x1 x2 x3 x4 x5 = some o) : CtI l yX13_cannot cX13_cannot 7 (some .boolean) rm_X13_cannot (wlm cy ad) wfm G (tym cy) [.ref (ad 0), vi x1, vi x2, vi x3, vi x4, vi x5] σ o.1 o.2 := by
  refine ctI_of (by decide) (Nat.le_of_ble_eq_true rfl) hw o o h (fun X Y w => EndI X Y cX13_cannot rm_X13_cannot .boolean w) (fun _ _ h => h) (fun X A Q hX C => ?_)
  replace C : Cx X (Ym cy ad G A 7 Q) cX13_cannot RX13 (some .boolean) rm_X13_cannot (tym cy) := C
  show T X (Ym cy ad G A 7 Q) (fun w => EndI X (Ym cy ad G A 7 Q) cX13_cannot rm_X13_cannot .boolean w) 0 0 0 [(0, .ref (ad 0)), (1, vi x1), (2, vi x2), (3, vi x3), (4, vi x4), (5, vi x5)] [] σ (f_X13_cannot N σ x1 x2 x3 x4 x5)
  unfold f_X13_cannot
  refine T_iconst (pc := 0) C dX13_cannot_0 ?_
  refine T_istore (pc := 1) (L' := [(6, vi 0), (0, .ref (ad 0)), (1, vi x1), (2, vi x2), (3, vi x3), (4, vi x4), (5, vi x5)]) C dX13_cannot_1 (Nat.le_of_ble_eq_true rfl) rfl ?_
  refine T_iload_n (pc := 3) C dX13_cannot_3 rfl 2 rfl ?_
  refine T_ite (fun c1 => ?_) (fun c1 => ?_)
  · refine T_tswIn (pc := 4) C 0 c1 (rngL rfl) 72 dX13_cannot_4 (by decide) (by decide) rfl rfl ?_
    refine T_aload_n (pc := 72) C dX13_cannot_72 rfl 1 rfl ?_
    refine T_iload_n (pc := 73) C dX13_cannot_73 rfl 3 rfl ?_
    refine T_callVip (pc := 74) C [vi x2] [] (fun o h9 hw => ct_X13_cannotAddStop σ x2 h2 hw o h9) kw_178 cm_X13_cannotAddStop rcm rfl rfl (Nat.le_of_ble_eq_true rfl) (by decide) (a' := 0) (b' := 0) ⟨rfl, rfl⟩ dX13_cannot_74 (fun v2 hv2 => ?_)
    refine T_if_le (pc := 77) C 82 dX13_cannot_77 rfl hv2.1 (fun c3 => ?_) (fun c3 => ?_)
    · refine T_aload_n (pc := 82) C dX13_cannot_82 rfl 1 rfl ?_
      refine T_iload_n (pc := 83) C dX13_cannot_83 rfl 3 rfl ?_
      refine T_callVi (pc := 84) C [vi x2] [] (fun o h9 hw => ct_X13_addsStop σ x2 h2 hw o h9) kw_179 cm_X13_addsStop rcm rfl rfl (Nat.le_of_ble_eq_true rfl) (by decide) (a' := 0) (b' := 0) ⟨rfl, rfl⟩ dX13_cannot_84 (fun v4 hv4 => ?_)
      refine T_istore (pc := 87) (L' := [(6, vi v4.2), (0, .ref (ad 0)), (1, vi x1), (2, vi x2), (3, vi x3), (4, vi x4), (5, vi x5)]) C dX13_cannot_87 (Nat.le_of_ble_eq_true rfl) rfl ?_
      refine T_iconst (pc := 89) C dX13_cannot_89 ?_
      exact T_iret (pc := 90) (v4.1, 0) (fun h9 => h9) (rngL rfl) (nar_Z (Or.inl rfl)) (by decide) dX13_cannot_90
    · refine T_iconst (pc := 80) C dX13_cannot_80 ?_
      exact T_iret (pc := 81) (σ, 1) (fun h9 => h9) (rngL rfl) (nar_Z (Or.inr rfl)) (by decide) dX13_cannot_81
  refine T_ite (fun c5 => ?_) (fun c5 => ?_)
  · refine T_tswIn (pc := 4) C 1 c5 (rngL rfl) 91 dX13_cannot_4 (by decide) (by decide) rfl rfl ?_
    refine T_aload_n (pc := 91) C dX13_cannot_91 rfl 1 rfl ?_
    refine T_iload_n (pc := 92) C dX13_cannot_92 rfl 3 rfl ?_
    refine T_iload_n (pc := 93) C dX13_cannot_93 rfl 4 rfl ?_
    refine T_iload (pc := 94) C dX13_cannot_94 5 rfl ?_
    refine T_callVip (pc := 96) C [vi x2, vi x3, vi x4] [] (fun o h9 hw => ct_X13_cannotWalk σ x2 x3 x4 h2 h3 h4 hw o h9) kw_193 cm_X13_cannotWalk rcm rfl rfl (Nat.le_of_ble_eq_true rfl) (by decide) (a' := 0) (b' := 0) ⟨rfl, rfl⟩ dX13_cannot_96 (fun v6 hv6 => ?_)
    refine T_if_le (pc := 99) C 104 dX13_cannot_99 rfl hv6.1 (fun c7 => ?_) (fun c7 => ?_)
    · refine T_aload_n (pc := 104) C dX13_cannot_104 rfl 1 rfl ?_
      refine T_iload_n (pc := 105) C dX13_cannot_105 rfl 3 rfl ?_
      refine T_iload_n (pc := 106) C dX13_cannot_106 rfl 4 rfl ?_
      refine T_iload (pc := 107) C dX13_cannot_107 5 rfl ?_
      refine T_callVi (pc := 109) C [vi x2, vi x3, vi x4] [] (fun o h9 hw => ct_X13_addsWalk σ x2 x3 x4 h2 h3 h4 hw o h9) kw_194 cm_X13_addsWalk rcm rfl rfl (Nat.le_of_ble_eq_true rfl) (by decide) (a' := 0) (b' := 0) ⟨rfl, rfl⟩ dX13_cannot_109 (fun v8 hv8 => ?_)
      refine T_istore (pc := 112) (L' := [(6, vi v8.2), (0, .ref (ad 0)), (1, vi x1), (2, vi x2), (3, vi x3), (4, vi x4), (5, vi x5)]) C dX13_cannot_112 (Nat.le_of_ble_eq_true rfl) rfl ?_
      refine T_iconst (pc := 114) C dX13_cannot_114 ?_
      exact T_iret (pc := 115) (v8.1, 0) (fun h9 => h9) (rngL rfl) (nar_Z (Or.inl rfl)) (by decide) dX13_cannot_115
    · refine T_iconst (pc := 102) C dX13_cannot_102 ?_
      exact T_iret (pc := 103) (σ, 1) (fun h9 => h9) (rngL rfl) (nar_Z (Or.inr rfl)) (by decide) dX13_cannot_103
  refine T_ite (fun c9 => ?_) (fun c9 => ?_)
  · refine T_tswIn (pc := 4) C 2 c9 (rngL rfl) 116 dX13_cannot_4 (by decide) (by decide) rfl rfl ?_
    refine T_aload_n (pc := 116) C dX13_cannot_116 rfl 1 rfl ?_
    refine T_iload_n (pc := 117) C dX13_cannot_117 rfl 3 rfl ?_
    refine T_iload_n (pc := 118) C dX13_cannot_118 rfl 4 rfl ?_
    refine T_iload (pc := 119) C dX13_cannot_119 5 rfl ?_
    refine T_iload (pc := 121) C dX13_cannot_121 6 rfl ?_
    refine T_callVip (pc := 123) C [vi x2, vi x3, vi x4, vi x5] [] (fun o h9 hw => ct_X13_cannotAddLine σ x2 x3 x4 x5 h2 h3 h4 h5 hw o h9) kw_231 cm_X13_cannotAddLine rcm rfl rfl (Nat.le_of_ble_eq_true rfl) (by decide) (a' := 0) (b' := 0) ⟨rfl, rfl⟩ dX13_cannot_123 (fun v10 hv10 => ?_)
    refine T_if_le (pc := 126) C 131 dX13_cannot_126 rfl hv10.1 (fun c11 => ?_) (fun c11 => ?_)
    · refine T_aload_n (pc := 131) C dX13_cannot_131 rfl 1 rfl ?_
      refine T_iload_n (pc := 132) C dX13_cannot_132 rfl 3 rfl ?_
      refine T_iload_n (pc := 133) C dX13_cannot_133 rfl 4 rfl ?_
      refine T_iload (pc := 134) C dX13_cannot_134 5 rfl ?_
      refine T_iload (pc := 136) C dX13_cannot_136 6 rfl ?_
      refine T_callVi (pc := 138) C [vi x2, vi x3, vi x4, vi x5] [] (fun o h9 hw => ct_X13_addsLine σ x2 x3 x4 x5 h2 h3 h4 h5 hw o h9) kw_232 cm_X13_addsLine rcm rfl rfl (Nat.le_of_ble_eq_true rfl) (by decide) (a' := 0) (b' := 0) ⟨rfl, rfl⟩ dX13_cannot_138 (fun v12 hv12 => ?_)
      refine T_istore (pc := 141) (L' := [(6, vi v12.2), (0, .ref (ad 0)), (1, vi x1), (2, vi x2), (3, vi x3), (4, vi x4), (5, vi x5)]) C dX13_cannot_141 (Nat.le_of_ble_eq_true rfl) rfl ?_
      refine T_iconst (pc := 143) C dX13_cannot_143 ?_
      exact T_iret (pc := 144) (v12.1, 0) (fun h9 => h9) (rngL rfl) (nar_Z (Or.inl rfl)) (by decide) dX13_cannot_144
    · refine T_iconst (pc := 129) C dX13_cannot_129 ?_
      exact T_iret (pc := 130) (σ, 1) (fun h9 => h9) (rngL rfl) (nar_Z (Or.inr rfl)) (by decide) dX13_cannot_130
  refine T_ite (fun c13 => ?_) (fun c13 => ?_)
  · refine T_tswIn (pc := 4) C 3 c13 (rngL rfl) 145 dX13_cannot_4 (by decide) (by decide) rfl rfl ?_
    refine T_aload_n (pc := 145) C dX13_cannot_145 rfl 1 rfl ?_
    refine T_iload_n (pc := 146) C dX13_cannot_146 rfl 3 rfl ?_
    refine T_iload_n (pc := 147) C dX13_cannot_147 rfl 4 rfl ?_
    refine T_callVip (pc := 148) C [vi x2, vi x3] [] (fun o h9 hw => ct_X13_cannotExtend N σ x2 x3 h2 h3 hw o h9) kw_247 cm_X13_cannotExtend rcm rfl rfl (Nat.le_of_ble_eq_true rfl) (by decide) (a' := 0) (b' := 0) ⟨rfl, rfl⟩ dX13_cannot_148 (fun v14 hv14 => ?_)
    refine T_if_le (pc := 151) C 156 dX13_cannot_151 rfl hv14.1 (fun c15 => ?_) (fun c15 => ?_)
    · refine T_aload_n (pc := 156) C dX13_cannot_156 rfl 1 rfl ?_
      refine T_iload_n (pc := 157) C dX13_cannot_157 rfl 3 rfl ?_
      refine T_iload_n (pc := 158) C dX13_cannot_158 rfl 4 rfl ?_
      refine T_callVi (pc := 159) C [vi x2, vi x3] [] (fun o h9 hw => ct_X13_extend σ x2 x3 h2 h3 hw o h9) kw_248 cm_X13_extend rcm rfl rfl (Nat.le_of_ble_eq_true rfl) (by decide) (a' := 0) (b' := 0) ⟨rfl, rfl⟩ dX13_cannot_159 (fun v16 hv16 => ?_)
      refine T_istore (pc := 162) (L' := [(6, vi v16.2), (0, .ref (ad 0)), (1, vi x1), (2, vi x2), (3, vi x3), (4, vi x4), (5, vi x5)]) C dX13_cannot_162 (Nat.le_of_ble_eq_true rfl) rfl ?_
      refine T_iconst (pc := 164) C dX13_cannot_164 ?_
      exact T_iret (pc := 165) (v16.1, 0) (fun h9 => h9) (rngL rfl) (nar_Z (Or.inl rfl)) (by decide) dX13_cannot_165
    · refine T_iconst (pc := 154) C dX13_cannot_154 ?_
      exact T_iret (pc := 155) (σ, 1) (fun h9 => h9) (rngL rfl) (nar_Z (Or.inr rfl)) (by decide) dX13_cannot_155
  refine T_ite (fun c17 => ?_) (fun c17 => ?_)
  · refine T_tswIn (pc := 4) C 4 c17 (rngL rfl) 166 dX13_cannot_4 (by decide) (by decide) rfl rfl ?_
    refine T_aload_n (pc := 166) C dX13_cannot_166 rfl 1 rfl ?_
    refine T_iload_n (pc := 167) C dX13_cannot_167 rfl 3 rfl ?_
    refine T_callVip (pc := 168) C [vi x2] [] (fun o h9 hw => ct_X13_cannotShorten N σ x2 h2 hw o h9) kw_255 cm_X13_cannotShorten rcm rfl rfl (Nat.le_of_ble_eq_true rfl) (by decide) (a' := 0) (b' := 0) ⟨rfl, rfl⟩ dX13_cannot_168 (fun v18 hv18 => ?_)
    refine T_if_le (pc := 171) C 176 dX13_cannot_171 rfl hv18.1 (fun c19 => ?_) (fun c19 => ?_)
    · refine T_aload_n (pc := 176) C dX13_cannot_176 rfl 1 rfl ?_
      refine T_iload_n (pc := 177) C dX13_cannot_177 rfl 3 rfl ?_
      refine T_callVi (pc := 178) C [vi x2] [] (fun o h9 hw => ct_X13_shorten σ x2 h2 hw o h9) kw_256 cm_X13_shorten rcm rfl rfl (Nat.le_of_ble_eq_true rfl) (by decide) (a' := 0) (b' := 0) ⟨rfl, rfl⟩ dX13_cannot_178 (fun v20 hv20 => ?_)
      refine T_istore (pc := 181) (L' := [(6, vi v20.2), (0, .ref (ad 0)), (1, vi x1), (2, vi x2), (3, vi x3), (4, vi x4), (5, vi x5)]) C dX13_cannot_181 (Nat.le_of_ble_eq_true rfl) rfl ?_
      refine T_iconst (pc := 183) C dX13_cannot_183 ?_
      exact T_iret (pc := 184) (v20.1, 0) (fun h9 => h9) (rngL rfl) (nar_Z (Or.inl rfl)) (by decide) dX13_cannot_184
    · refine T_iconst (pc := 174) C dX13_cannot_174 ?_
      exact T_iret (pc := 175) (σ, 1) (fun h9 => h9) (rngL rfl) (nar_Z (Or.inr rfl)) (by decide) dX13_cannot_175
  refine T_ite (fun c21 => ?_) (fun c21 => ?_)
  · refine T_tswIn (pc := 4) C 5 c21 (rngL rfl) 185 dX13_cannot_4 (by decide) (by decide) rfl rfl ?_
    refine T_aload_n (pc := 185) C dX13_cannot_185 rfl 1 rfl ?_
    refine T_bipush (pc := 186) C dX13_cannot_186 (by decide) ?_
    refine T_iload_n (pc := 188) C dX13_cannot_188 rfl 2 rfl ?_
    refine T_iconst (pc := 189) C dX13_cannot_189 ?_
    refine T_icmp_ne (pc := 190) C 197 dX13_cannot_190 rfl h1 (rngL rfl) (fun c22 => ?_) (fun c22 => ?_)
    · refine T_iconst (pc := 197) C dX13_cannot_197 ?_
      refine T_callVi (pc := 198) C [vi 6, vi 0] [] (fun o h9 hw => ct_X13_flag σ 6 0 (rngL rfl) (Or.inl rfl) hw o h9) kw_261 cm_X13_flag rcm rfl rfl (Nat.le_of_ble_eq_true rfl) (by decide) (a' := 0) (b' := 0) ⟨rfl, rfl⟩ dX13_cannot_198 (fun v23 hv23 => ?_)
      refine T_istore (pc := 201) (L' := [(6, vi v23.2), (0, .ref (ad 0)), (1, vi x1), (2, vi x2), (3, vi x3), (4, vi x4), (5, vi x5)]) C dX13_cannot_201 (Nat.le_of_ble_eq_true rfl) rfl ?_
      refine T_iconst (pc := 203) C dX13_cannot_203 ?_
      exact T_iret (pc := 204) (v23.1, 0) (fun h9 => h9) (rngL rfl) (nar_Z (Or.inl rfl)) (by decide) dX13_cannot_204
    · refine T_iconst (pc := 193) C dX13_cannot_193 ?_
      refine T_goto (pc := 194) C 198 dX13_cannot_194 rfl ?_
      refine T_callVi (pc := 198) C [vi 6, vi 1] [] (fun o h9 hw => ct_X13_flag σ 6 1 (rngL rfl) (Or.inr rfl) hw o h9) kw_261 cm_X13_flag rcm rfl rfl (Nat.le_of_ble_eq_true rfl) (by decide) (a' := 0) (b' := 0) ⟨rfl, rfl⟩ dX13_cannot_198 (fun v24 hv24 => ?_)
      refine T_istore (pc := 201) (L' := [(6, vi v24.2), (0, .ref (ad 0)), (1, vi x1), (2, vi x2), (3, vi x3), (4, vi x4), (5, vi x5)]) C dX13_cannot_201 (Nat.le_of_ble_eq_true rfl) rfl ?_
      refine T_iconst (pc := 203) C dX13_cannot_203 ?_
      exact T_iret (pc := 204) (v24.1, 0) (fun h9 => h9) (rngL rfl) (nar_Z (Or.inl rfl)) (by decide) dX13_cannot_204
  refine T_ite (fun c25 => ?_) (fun c25 => ?_)
  · refine T_tswIn (pc := 4) C 6 c25 (rngL rfl) 185 dX13_cannot_4 (by decide) (by decide) rfl rfl ?_
    refine T_aload_n (pc := 185) C dX13_cannot_185 rfl 1 rfl ?_
    refine T_bipush (pc := 186) C dX13_cannot_186 (by decide) ?_
    refine T_iload_n (pc := 188) C dX13_cannot_188 rfl 2 rfl ?_
    refine T_iconst (pc := 189) C dX13_cannot_189 ?_
    refine T_icmp_ne (pc := 190) C 197 dX13_cannot_190 rfl h1 (rngL rfl) (fun c26 => ?_) (fun c26 => ?_)
    · refine T_iconst (pc := 197) C dX13_cannot_197 ?_
      refine T_callVi (pc := 198) C [vi 6, vi 0] [] (fun o h9 hw => ct_X13_flag σ 6 0 (rngL rfl) (Or.inl rfl) hw o h9) kw_261 cm_X13_flag rcm rfl rfl (Nat.le_of_ble_eq_true rfl) (by decide) (a' := 0) (b' := 0) ⟨rfl, rfl⟩ dX13_cannot_198 (fun v27 hv27 => ?_)
      refine T_istore (pc := 201) (L' := [(6, vi v27.2), (0, .ref (ad 0)), (1, vi x1), (2, vi x2), (3, vi x3), (4, vi x4), (5, vi x5)]) C dX13_cannot_201 (Nat.le_of_ble_eq_true rfl) rfl ?_
      refine T_iconst (pc := 203) C dX13_cannot_203 ?_
      exact T_iret (pc := 204) (v27.1, 0) (fun h9 => h9) (rngL rfl) (nar_Z (Or.inl rfl)) (by decide) dX13_cannot_204
    · refine T_iconst (pc := 193) C dX13_cannot_193 ?_
      refine T_goto (pc := 194) C 198 dX13_cannot_194 rfl ?_
      refine T_callVi (pc := 198) C [vi 6, vi 1] [] (fun o h9 hw => ct_X13_flag σ 6 1 (rngL rfl) (Or.inr rfl) hw o h9) kw_261 cm_X13_flag rcm rfl rfl (Nat.le_of_ble_eq_true rfl) (by decide) (a' := 0) (b' := 0) ⟨rfl, rfl⟩ dX13_cannot_198 (fun v28 hv28 => ?_)
      refine T_istore (pc := 201) (L' := [(6, vi v28.2), (0, .ref (ad 0)), (1, vi x1), (2, vi x2), (3, vi x3), (4, vi x4), (5, vi x5)]) C dX13_cannot_201 (Nat.le_of_ble_eq_true rfl) rfl ?_
      refine T_iconst (pc := 203) C dX13_cannot_203 ?_
      exact T_iret (pc := 204) (v28.1, 0) (fun h9 => h9) (rngL rfl) (nar_Z (Or.inl rfl)) (by decide) dX13_cannot_204
  refine T_ite (fun c29 => ?_) (fun c29 => ?_)
  · refine T_tswIn (pc := 4) C 7 c29 (rngL rfl) 205 dX13_cannot_4 (by decide) (by decide) rfl rfl ?_
    refine T_aload_n (pc := 205) C dX13_cannot_205 rfl 1 rfl ?_
    refine T_iload_n (pc := 206) C dX13_cannot_206 rfl 3 rfl ?_
    refine T_callVip (pc := 207) C [vi x2] [] (fun o h9 hw => ct_X13_isStop σ x2 h2 hw o h9) kw_164 cm_X13_isStop rcm rfl rfl (Nat.le_of_ble_eq_true rfl) (by decide) (a' := 0) (b' := 0) ⟨rfl, rfl⟩ dX13_cannot_207 (fun v30 hv30 => ?_)
    refine T_if_ne (pc := 210) C 215 dX13_cannot_210 rfl hv30.1 (fun c31 => ?_) (fun c31 => ?_)
    · refine T_aload_n (pc := 215) C dX13_cannot_215 rfl 1 rfl ?_
      refine T_bipush (pc := 216) C dX13_cannot_216 (by decide) ?_
      refine T_iconst (pc := 218) C dX13_cannot_218 ?_
      refine T_iload_n (pc := 219) C dX13_cannot_219 rfl 3 rfl ?_
      refine T_imul (pc := 220) C dX13_cannot_220 ?_
      refine T_iadd (pc := 221) C dX13_cannot_221 ?_
      refine T_iconst (pc := 222) C dX13_cannot_222 ?_
      refine T_iadd (pc := 223) C dX13_cannot_223 ?_
      refine T_iload_n (pc := 224) C dX13_cannot_224 rfl 2 rfl ?_
      refine T_bipush (pc := 225) C dX13_cannot_225 (by decide) ?_
      refine T_icmp_ne (pc := 227) C 234 dX13_cannot_227 rfl h1 (rngL rfl) (fun c32 => ?_) (fun c32 => ?_)
      · refine T_iconst (pc := 234) C dX13_cannot_234 ?_
        refine T_guard (fun g33 => ?_)
        refine T_callVi (pc := 235) C [vi ((12 + (2 * x2)) + 1), vi 0] [] (fun o h9 hw => ct_X13_flag σ ((12 + (2 * x2)) + 1) 0 g33 (Or.inl rfl) hw o h9) kw_261 cm_X13_flag rcm rfl rfl (Nat.le_of_ble_eq_true rfl) (by decide) (a' := 0) (b' := 0) ⟨rfl, rfl⟩ dX13_cannot_235 (fun v34 hv34 => ?_)
        refine T_istore (pc := 238) (L' := [(6, vi v34.2), (0, .ref (ad 0)), (1, vi x1), (2, vi x2), (3, vi x3), (4, vi x4), (5, vi x5)]) C dX13_cannot_238 (Nat.le_of_ble_eq_true rfl) rfl ?_
        refine T_iconst (pc := 240) C dX13_cannot_240 ?_
        exact T_iret (pc := 241) (v34.1, 0) (fun h9 => h9) (rngL rfl) (nar_Z (Or.inl rfl)) (by decide) dX13_cannot_241
      · refine T_iconst (pc := 230) C dX13_cannot_230 ?_
        refine T_goto (pc := 231) C 235 dX13_cannot_231 rfl ?_
        refine T_guard (fun g35 => ?_)
        refine T_callVi (pc := 235) C [vi ((12 + (2 * x2)) + 1), vi 1] [] (fun o h9 hw => ct_X13_flag σ ((12 + (2 * x2)) + 1) 1 g35 (Or.inr rfl) hw o h9) kw_261 cm_X13_flag rcm rfl rfl (Nat.le_of_ble_eq_true rfl) (by decide) (a' := 0) (b' := 0) ⟨rfl, rfl⟩ dX13_cannot_235 (fun v36 hv36 => ?_)
        refine T_istore (pc := 238) (L' := [(6, vi v36.2), (0, .ref (ad 0)), (1, vi x1), (2, vi x2), (3, vi x3), (4, vi x4), (5, vi x5)]) C dX13_cannot_238 (Nat.le_of_ble_eq_true rfl) rfl ?_
        refine T_iconst (pc := 240) C dX13_cannot_240 ?_
        exact T_iret (pc := 241) (v36.1, 0) (fun h9 => h9) (rngL rfl) (nar_Z (Or.inl rfl)) (by decide) dX13_cannot_241
    · refine T_iconst (pc := 213) C dX13_cannot_213 ?_
      exact T_iret (pc := 214) (σ, 1) (fun h9 => h9) (rngL rfl) (nar_Z (Or.inr rfl)) (by decide) dX13_cannot_214
  refine T_ite (fun c37 => ?_) (fun c37 => ?_)
  · refine T_tswIn (pc := 4) C 8 c37 (rngL rfl) 205 dX13_cannot_4 (by decide) (by decide) rfl rfl ?_
    refine T_aload_n (pc := 205) C dX13_cannot_205 rfl 1 rfl ?_
    refine T_iload_n (pc := 206) C dX13_cannot_206 rfl 3 rfl ?_
    refine T_callVip (pc := 207) C [vi x2] [] (fun o h9 hw => ct_X13_isStop σ x2 h2 hw o h9) kw_164 cm_X13_isStop rcm rfl rfl (Nat.le_of_ble_eq_true rfl) (by decide) (a' := 0) (b' := 0) ⟨rfl, rfl⟩ dX13_cannot_207 (fun v38 hv38 => ?_)
    refine T_if_ne (pc := 210) C 215 dX13_cannot_210 rfl hv38.1 (fun c39 => ?_) (fun c39 => ?_)
    · refine T_aload_n (pc := 215) C dX13_cannot_215 rfl 1 rfl ?_
      refine T_bipush (pc := 216) C dX13_cannot_216 (by decide) ?_
      refine T_iconst (pc := 218) C dX13_cannot_218 ?_
      refine T_iload_n (pc := 219) C dX13_cannot_219 rfl 3 rfl ?_
      refine T_imul (pc := 220) C dX13_cannot_220 ?_
      refine T_iadd (pc := 221) C dX13_cannot_221 ?_
      refine T_iconst (pc := 222) C dX13_cannot_222 ?_
      refine T_iadd (pc := 223) C dX13_cannot_223 ?_
      refine T_iload_n (pc := 224) C dX13_cannot_224 rfl 2 rfl ?_
      refine T_bipush (pc := 225) C dX13_cannot_225 (by decide) ?_
      refine T_icmp_ne (pc := 227) C 234 dX13_cannot_227 rfl h1 (rngL rfl) (fun c40 => ?_) (fun c40 => ?_)
      · refine T_iconst (pc := 234) C dX13_cannot_234 ?_
        refine T_guard (fun g41 => ?_)
        refine T_callVi (pc := 235) C [vi ((12 + (2 * x2)) + 1), vi 0] [] (fun o h9 hw => ct_X13_flag σ ((12 + (2 * x2)) + 1) 0 g41 (Or.inl rfl) hw o h9) kw_261 cm_X13_flag rcm rfl rfl (Nat.le_of_ble_eq_true rfl) (by decide) (a' := 0) (b' := 0) ⟨rfl, rfl⟩ dX13_cannot_235 (fun v42 hv42 => ?_)
        refine T_istore (pc := 238) (L' := [(6, vi v42.2), (0, .ref (ad 0)), (1, vi x1), (2, vi x2), (3, vi x3), (4, vi x4), (5, vi x5)]) C dX13_cannot_238 (Nat.le_of_ble_eq_true rfl) rfl ?_
        refine T_iconst (pc := 240) C dX13_cannot_240 ?_
        exact T_iret (pc := 241) (v42.1, 0) (fun h9 => h9) (rngL rfl) (nar_Z (Or.inl rfl)) (by decide) dX13_cannot_241
      · refine T_iconst (pc := 230) C dX13_cannot_230 ?_
        refine T_goto (pc := 231) C 235 dX13_cannot_231 rfl ?_
        refine T_guard (fun g43 => ?_)
        refine T_callVi (pc := 235) C [vi ((12 + (2 * x2)) + 1), vi 1] [] (fun o h9 hw => ct_X13_flag σ ((12 + (2 * x2)) + 1) 1 g43 (Or.inr rfl) hw o h9) kw_261 cm_X13_flag rcm rfl rfl (Nat.le_of_ble_eq_true rfl) (by decide) (a' := 0) (b' := 0) ⟨rfl, rfl⟩ dX13_cannot_235 (fun v44 hv44 => ?_)
        refine T_istore (pc := 238) (L' := [(6, vi v44.2), (0, .ref (ad 0)), (1, vi x1), (2, vi x2), (3, vi x3), (4, vi x4), (5, vi x5)]) C dX13_cannot_238 (Nat.le_of_ble_eq_true rfl) rfl ?_
        refine T_iconst (pc := 240) C dX13_cannot_240 ?_
        exact T_iret (pc := 241) (v44.1, 0) (fun h9 => h9) (rngL rfl) (nar_Z (Or.inl rfl)) (by decide) dX13_cannot_241
    · refine T_iconst (pc := 213) C dX13_cannot_213 ?_
      exact T_iret (pc := 214) (σ, 1) (fun h9 => h9) (rngL rfl) (nar_Z (Or.inr rfl)) (by decide) dX13_cannot_214
  refine T_ite (fun c45 => ?_) (fun c45 => ?_)
  · refine T_tswIn (pc := 4) C 9 c45 (rngL rfl) 242 dX13_cannot_4 (by decide) (by decide) rfl rfl ?_
    refine T_aload_n (pc := 242) C dX13_cannot_242 rfl 1 rfl ?_
    refine T_iload_n (pc := 243) C dX13_cannot_243 rfl 3 rfl ?_
    refine T_callVip (pc := 244) C [vi x2] [] (fun o h9 hw => ct_X13_isLine σ x2 h2 hw o h9) kw_240 cm_X13_isLine rcm rfl rfl (Nat.le_of_ble_eq_true rfl) (by decide) (a' := 0) (b' := 0) ⟨rfl, rfl⟩ dX13_cannot_244 (fun v46 hv46 => ?_)
    refine T_if_ne (pc := 247) C 252 dX13_cannot_247 rfl hv46.1 (fun c47 => ?_) (fun c47 => ?_)
    · refine T_aload_n (pc := 252) C dX13_cannot_252 rfl 1 rfl ?_
      refine T_sipush (pc := 253) C dX13_cannot_253 (by decide) ?_
      refine T_bipush (pc := 256) C dX13_cannot_256 (by decide) ?_
      refine T_iload_n (pc := 258) C dX13_cannot_258 rfl 3 rfl ?_
      refine T_imul (pc := 259) C dX13_cannot_259 ?_
      refine T_iadd (pc := 260) C dX13_cannot_260 ?_
      refine T_bipush (pc := 261) C dX13_cannot_261 (by decide) ?_
      refine T_iadd (pc := 263) C dX13_cannot_263 ?_
      refine T_iload_n (pc := 264) C dX13_cannot_264 rfl 2 rfl ?_
      refine T_bipush (pc := 265) C dX13_cannot_265 (by decide) ?_
      refine T_icmp_ne (pc := 267) C 274 dX13_cannot_267 rfl h1 (rngL rfl) (fun c48 => ?_) (fun c48 => ?_)
      · refine T_iconst (pc := 274) C dX13_cannot_274 ?_
        refine T_guard (fun g49 => ?_)
        refine T_callVi (pc := 275) C [vi ((132 + (16 * x2)) + 6), vi 0] [] (fun o h9 hw => ct_X13_flag σ ((132 + (16 * x2)) + 6) 0 g49 (Or.inl rfl) hw o h9) kw_261 cm_X13_flag rcm rfl rfl (Nat.le_of_ble_eq_true rfl) (by decide) (a' := 0) (b' := 0) ⟨rfl, rfl⟩ dX13_cannot_275 (fun v50 hv50 => ?_)
        refine T_istore (pc := 278) (L' := [(6, vi v50.2), (0, .ref (ad 0)), (1, vi x1), (2, vi x2), (3, vi x3), (4, vi x4), (5, vi x5)]) C dX13_cannot_278 (Nat.le_of_ble_eq_true rfl) rfl ?_
        refine T_iconst (pc := 280) C dX13_cannot_280 ?_
        exact T_iret (pc := 281) (v50.1, 0) (fun h9 => h9) (rngL rfl) (nar_Z (Or.inl rfl)) (by decide) dX13_cannot_281
      · refine T_iconst (pc := 270) C dX13_cannot_270 ?_
        refine T_goto (pc := 271) C 275 dX13_cannot_271 rfl ?_
        refine T_guard (fun g51 => ?_)
        refine T_callVi (pc := 275) C [vi ((132 + (16 * x2)) + 6), vi 1] [] (fun o h9 hw => ct_X13_flag σ ((132 + (16 * x2)) + 6) 1 g51 (Or.inr rfl) hw o h9) kw_261 cm_X13_flag rcm rfl rfl (Nat.le_of_ble_eq_true rfl) (by decide) (a' := 0) (b' := 0) ⟨rfl, rfl⟩ dX13_cannot_275 (fun v52 hv52 => ?_)
        refine T_istore (pc := 278) (L' := [(6, vi v52.2), (0, .ref (ad 0)), (1, vi x1), (2, vi x2), (3, vi x3), (4, vi x4), (5, vi x5)]) C dX13_cannot_278 (Nat.le_of_ble_eq_true rfl) rfl ?_
        refine T_iconst (pc := 280) C dX13_cannot_280 ?_
        exact T_iret (pc := 281) (v52.1, 0) (fun h9 => h9) (rngL rfl) (nar_Z (Or.inl rfl)) (by decide) dX13_cannot_281
    · refine T_iconst (pc := 250) C dX13_cannot_250 ?_
      exact T_iret (pc := 251) (σ, 1) (fun h9 => h9) (rngL rfl) (nar_Z (Or.inr rfl)) (by decide) dX13_cannot_251
  refine T_ite (fun c53 => ?_) (fun c53 => ?_)
  · refine T_tswIn (pc := 4) C 10 c53 (rngL rfl) 242 dX13_cannot_4 (by decide) (by decide) rfl rfl ?_
    refine T_aload_n (pc := 242) C dX13_cannot_242 rfl 1 rfl ?_
    refine T_iload_n (pc := 243) C dX13_cannot_243 rfl 3 rfl ?_
    refine T_callVip (pc := 244) C [vi x2] [] (fun o h9 hw => ct_X13_isLine σ x2 h2 hw o h9) kw_240 cm_X13_isLine rcm rfl rfl (Nat.le_of_ble_eq_true rfl) (by decide) (a' := 0) (b' := 0) ⟨rfl, rfl⟩ dX13_cannot_244 (fun v54 hv54 => ?_)
    refine T_if_ne (pc := 247) C 252 dX13_cannot_247 rfl hv54.1 (fun c55 => ?_) (fun c55 => ?_)
    · refine T_aload_n (pc := 252) C dX13_cannot_252 rfl 1 rfl ?_
      refine T_sipush (pc := 253) C dX13_cannot_253 (by decide) ?_
      refine T_bipush (pc := 256) C dX13_cannot_256 (by decide) ?_
      refine T_iload_n (pc := 258) C dX13_cannot_258 rfl 3 rfl ?_
      refine T_imul (pc := 259) C dX13_cannot_259 ?_
      refine T_iadd (pc := 260) C dX13_cannot_260 ?_
      refine T_bipush (pc := 261) C dX13_cannot_261 (by decide) ?_
      refine T_iadd (pc := 263) C dX13_cannot_263 ?_
      refine T_iload_n (pc := 264) C dX13_cannot_264 rfl 2 rfl ?_
      refine T_bipush (pc := 265) C dX13_cannot_265 (by decide) ?_
      refine T_icmp_ne (pc := 267) C 274 dX13_cannot_267 rfl h1 (rngL rfl) (fun c56 => ?_) (fun c56 => ?_)
      · refine T_iconst (pc := 274) C dX13_cannot_274 ?_
        refine T_guard (fun g57 => ?_)
        refine T_callVi (pc := 275) C [vi ((132 + (16 * x2)) + 6), vi 0] [] (fun o h9 hw => ct_X13_flag σ ((132 + (16 * x2)) + 6) 0 g57 (Or.inl rfl) hw o h9) kw_261 cm_X13_flag rcm rfl rfl (Nat.le_of_ble_eq_true rfl) (by decide) (a' := 0) (b' := 0) ⟨rfl, rfl⟩ dX13_cannot_275 (fun v58 hv58 => ?_)
        refine T_istore (pc := 278) (L' := [(6, vi v58.2), (0, .ref (ad 0)), (1, vi x1), (2, vi x2), (3, vi x3), (4, vi x4), (5, vi x5)]) C dX13_cannot_278 (Nat.le_of_ble_eq_true rfl) rfl ?_
        refine T_iconst (pc := 280) C dX13_cannot_280 ?_
        exact T_iret (pc := 281) (v58.1, 0) (fun h9 => h9) (rngL rfl) (nar_Z (Or.inl rfl)) (by decide) dX13_cannot_281
      · refine T_iconst (pc := 270) C dX13_cannot_270 ?_
        refine T_goto (pc := 271) C 275 dX13_cannot_271 rfl ?_
        refine T_guard (fun g59 => ?_)
        refine T_callVi (pc := 275) C [vi ((132 + (16 * x2)) + 6), vi 1] [] (fun o h9 hw => ct_X13_flag σ ((132 + (16 * x2)) + 6) 1 g59 (Or.inr rfl) hw o h9) kw_261 cm_X13_flag rcm rfl rfl (Nat.le_of_ble_eq_true rfl) (by decide) (a' := 0) (b' := 0) ⟨rfl, rfl⟩ dX13_cannot_275 (fun v60 hv60 => ?_)
        refine T_istore (pc := 278) (L' := [(6, vi v60.2), (0, .ref (ad 0)), (1, vi x1), (2, vi x2), (3, vi x3), (4, vi x4), (5, vi x5)]) C dX13_cannot_278 (Nat.le_of_ble_eq_true rfl) rfl ?_
        refine T_iconst (pc := 280) C dX13_cannot_280 ?_
        exact T_iret (pc := 281) (v60.1, 0) (fun h9 => h9) (rngL rfl) (nar_Z (Or.inl rfl)) (by decide) dX13_cannot_281
    · refine T_iconst (pc := 250) C dX13_cannot_250 ?_
      exact T_iret (pc := 251) (σ, 1) (fun h9 => h9) (rngL rfl) (nar_Z (Or.inr rfl)) (by decide) dX13_cannot_251
  refine T_ite (fun c61 => ?_) (fun c61 => ?_)
  · refine T_tswIn (pc := 4) C 11 c61 (rngL rfl) 282 dX13_cannot_4 (by decide) (by decide) rfl rfl ?_
    refine T_aload_n (pc := 282) C dX13_cannot_282 rfl 1 rfl ?_
    refine T_iload_n (pc := 283) C dX13_cannot_283 rfl 3 rfl ?_
    refine T_iload_n (pc := 284) C dX13_cannot_284 rfl 4 rfl ?_
    refine T_iload (pc := 285) C dX13_cannot_285 5 rfl ?_
    refine T_iload (pc := 287) C dX13_cannot_287 6 rfl ?_
    refine T_callVip (pc := 289) C [vi x2, vi x3, vi x4, vi x5] [] (fun o h9 hw => ct_X13_cannotSell N σ x2 x3 x4 x5 h2 h3 h4 h5 hw o h9) kw_289 cm_X13_cannotSell rcm rfl rfl (Nat.le_of_ble_eq_true rfl) (by decide) (a' := 0) (b' := 0) ⟨rfl, rfl⟩ dX13_cannot_289 (fun v62 hv62 => ?_)
    refine T_if_le (pc := 292) C 297 dX13_cannot_292 rfl hv62.1 (fun c63 => ?_) (fun c63 => ?_)
    · refine T_aload_n (pc := 297) C dX13_cannot_297 rfl 1 rfl ?_
      refine T_iload_n (pc := 298) C dX13_cannot_298 rfl 3 rfl ?_
      refine T_iload_n (pc := 299) C dX13_cannot_299 rfl 4 rfl ?_
      refine T_iload (pc := 300) C dX13_cannot_300 5 rfl ?_
      refine T_iload (pc := 302) C dX13_cannot_302 6 rfl ?_
      refine T_callVi (pc := 304) C [vi x2, vi x3, vi x4, vi x5] [] (fun o h9 hw => ct_X13_sells σ x2 x3 x4 x5 h2 h3 h4 h5 hw o h9) kw_290 cm_X13_sells rcm rfl rfl (Nat.le_of_ble_eq_true rfl) (by decide) (a' := 0) (b' := 0) ⟨rfl, rfl⟩ dX13_cannot_304 (fun v64 hv64 => ?_)
      refine T_istore (pc := 307) (L' := [(6, vi v64.2), (0, .ref (ad 0)), (1, vi x1), (2, vi x2), (3, vi x3), (4, vi x4), (5, vi x5)]) C dX13_cannot_307 (Nat.le_of_ble_eq_true rfl) rfl ?_
      refine T_iconst (pc := 309) C dX13_cannot_309 ?_
      exact T_iret (pc := 310) (v64.1, 0) (fun h9 => h9) (rngL rfl) (nar_Z (Or.inl rfl)) (by decide) dX13_cannot_310
    · refine T_iconst (pc := 295) C dX13_cannot_295 ?_
      exact T_iret (pc := 296) (σ, 1) (fun h9 => h9) (rngL rfl) (nar_Z (Or.inr rfl)) (by decide) dX13_cannot_296
  refine T_ite (fun c65 => ?_) (fun c65 => ?_)
  · refine T_tswIn (pc := 4) C 12 c65 (rngL rfl) 311 dX13_cannot_4 (by decide) (by decide) rfl rfl ?_
    refine T_aload_n (pc := 311) C dX13_cannot_311 rfl 1 rfl ?_
    refine T_iload_n (pc := 312) C dX13_cannot_312 rfl 3 rfl ?_
    refine T_callVip (pc := 313) C [vi x2] [] (fun o h9 hw => ct_X13_ticket N σ x2 h2 hw o h9) kw_295 cm_X13_ticket rcm rfl rfl (Nat.le_of_ble_eq_true rfl) (by decide) (a' := 0) (b' := 0) ⟨rfl, rfl⟩ dX13_cannot_313 (fun v66 hv66 => ?_)
    refine T_if_ge (pc := 316) C 321 dX13_cannot_316 rfl hv66.1 (fun c67 => ?_) (fun c67 => ?_)
    · refine T_aload_n (pc := 321) C dX13_cannot_321 rfl 1 rfl ?_
      refine T_iload_n (pc := 322) C dX13_cannot_322 rfl 3 rfl ?_
      refine T_callVi (pc := 323) C [vi x2] [] (fun o h9 hw => ct_X13_refunds N σ x2 h2 hw o h9) kw_299 cm_X13_refunds rcm rfl rfl (Nat.le_of_ble_eq_true rfl) (by decide) (a' := 0) (b' := 0) ⟨rfl, rfl⟩ dX13_cannot_323 (fun v68 hv68 => ?_)
      refine T_istore (pc := 326) (L' := [(6, vi v68.2), (0, .ref (ad 0)), (1, vi x1), (2, vi x2), (3, vi x3), (4, vi x4), (5, vi x5)]) C dX13_cannot_326 (Nat.le_of_ble_eq_true rfl) rfl ?_
      refine T_iconst (pc := 328) C dX13_cannot_328 ?_
      exact T_iret (pc := 329) (v68.1, 0) (fun h9 => h9) (rngL rfl) (nar_Z (Or.inl rfl)) (by decide) dX13_cannot_329
    · refine T_iconst (pc := 319) C dX13_cannot_319 ?_
      exact T_iret (pc := 320) (σ, 1) (fun h9 => h9) (rngL rfl) (nar_Z (Or.inr rfl)) (by decide) dX13_cannot_320
  refine T_tswOut (pc := 4) C h1 330 dX13_cannot_4 (by omega) rfl ?_
  refine T_iload_n (pc := 330) C dX13_cannot_330 rfl 3 rfl ?_
  refine T_iconst (pc := 331) C dX13_cannot_331 ?_
  refine T_bipush (pc := 332) C dX13_cannot_332 (by decide) ?_
  refine T_callSip (pc := 334) C [vi x2, vi 1, vi 120] [] (fun o h9 hw => ct_X13_in σ x2 1 120 h2 (rngL rfl) (rngL rfl) hw o h9) kw_161 cm_X13_in rfl rfl (Nat.le_of_ble_eq_true rfl) (by decide) (a' := 0) (b' := 0) ⟨rfl, rfl⟩ dX13_cannot_334 (fun v69 hv69 => ?_)
  refine T_if_ne (pc := 337) C 342 dX13_cannot_337 rfl hv69.1 (fun c70 => ?_) (fun c70 => ?_)
  · refine T_aload_n (pc := 342) C dX13_cannot_342 rfl 1 rfl ?_
    refine T_iload_n (pc := 343) C dX13_cannot_343 rfl 3 rfl ?_
    refine T_callVi (pc := 344) C [vi x2] [] (fun o h9 hw => ct_X13_advances N σ x2 h2 hw o h9) kw_307 cm_X13_advances rcm rfl rfl (Nat.le_of_ble_eq_true rfl) (by decide) (a' := 0) (b' := 0) ⟨rfl, rfl⟩ dX13_cannot_344 (fun v71 hv71 => ?_)
    refine T_istore (pc := 347) (L' := [(6, vi v71.2), (0, .ref (ad 0)), (1, vi x1), (2, vi x2), (3, vi x3), (4, vi x4), (5, vi x5)]) C dX13_cannot_347 (Nat.le_of_ble_eq_true rfl) rfl ?_
    refine T_iconst (pc := 349) C dX13_cannot_349 ?_
    exact T_iret (pc := 350) (v71.1, 0) (fun h9 => h9) (rngL rfl) (nar_Z (Or.inl rfl)) (by decide) dX13_cannot_350
  · refine T_iconst (pc := 340) C dX13_cannot_340 ?_
    exact T_iret (pc := 341) (σ, 1) (fun h9 => h9) (rngL rfl) (nar_Z (Or.inr rfl)) (by decide) dX13_cannot_341

abbrev rm_X13_runScript : Room := ⟨6, 0, 0, 137⟩
theorem cm_X13_runScript : cmV yX13_runScript cX13_runScript 2 (some .int) 0 := ⟨kw_137, kw_145, ⟨by decide +kernel, by decide +kernel, by decide +kernel⟩, kw_517, kw_518⟩
def f_X13_runScript_31 (N : Nat) : Nat → Sm → Int → Option ((Sm × Int) ⊕ Sm)
  | 0, _, _ => none
  | n + 1, s0, x1 => (if (s0 20 0) ≤ x1 then some (.inr s0) else if 0 ≤ x1 ∧ x1 < 32 then if 0 ≤ (4 * x1) ∧ (4 * x1) < 128 then if 0 ≤ ((4 * x1) + 1) ∧ ((4 * x1) + 1) < 128 then if 0 ≤ ((4 * x1) + 2) ∧ ((4 * x1) + 2) < 128 then if 0 ≤ ((4 * x1) + 3) ∧ ((4 * x1) + 3) < 128 then (f_X13_cannot N s0 (s0 9 x1.toNat) (s0 10 (4 * x1).toNat) (s0 10 ((4 * x1) + 1).toNat) (s0 10 ((4 * x1) + 2).toNat) (s0 10 ((4 * x1) + 3).toNat)).bind fun v34 => (if v34.2 = 0 then f_X13_runScript_31 N n v34.1 (x1 + 1) else (f_X13_copy N v34.1 2 0 1 0).bind fun s36 => bl (upm s36 14 0 x1) fun s37 => (f_X13_fail s37 2).bind fun v38 => some (.inl (v38.1, v38.2))) else none else none else none else none else none)
theorem lp_X13_runScript_31 {X : vjX} {A : Nat → Prop} {Q : State → Prop} {cy : ClassId} {ad : Nat → Nat} {G : va_G} (C : Cx X (Ym cy ad G A 2 Q) cX13_runScript RX13 (some .int) rm_X13_runScript (tym cy)) (N : Nat) : ∀ (n : Nat) (s0 : Sm) (x1 : Int) (h1 : rng x1), T X (Ym cy ad G A 2 Q) (Sum.elim (fun w => EndI X (Ym cy ad G A 2 Q) cX13_runScript rm_X13_runScript .int w) (fun (q : Sm) => True → J X (Ym cy ad G A 2 Q) 0 0 123 [(0, .ref (ad 0))] [] q)) 0 0 31 [(0, .ref (ad 0)), (1, vi x1)] [] s0 (f_X13_runScript_31 N n s0 x1) := by
  intro n
  induction n with
  | zero => intro s0 x1 h1; exact T_none
  | succ n ih =>
    intro s0 x1 h1
    rw [f_X13_runScript_31]
    refine T_iload_n (pc := 31) C dX13_runScript_31 rfl 1 rfl ?_
    refine T_aload_n (pc := 32) C dX13_runScript_32 rfl 0 rfl ?_
    refine Tm_get (pc := 33) C 20 ⟨by decide, by decide⟩ kw_486 dX13_runScript_33 (fun r22 => ?_)
    refine T_icmp_ge (pc := 36) C 123 dX13_runScript_36 rfl h1 r22 (fun c23 => ?_) (fun c23 => ?_)
    · refine T_sub (L' := [(0, .ref (ad 0))]) [0] rfl ?_
      exact T_exit (fun h9 => h9 trivial)
    · refine T_aload_n (pc := 39) C dX13_runScript_39 rfl 0 rfl ?_
      refine T_aload_n (pc := 40) C dX13_runScript_40 rfl 0 rfl ?_
      refine Tm_getA (pc := 41) C 14 9 (by decide) (fun _ => rfl) kw_504 rfl dX13_runScript_41 ?_
      refine T_iload_n (pc := 44) C dX13_runScript_44 rfl 1 rfl ?_
      refine T_guard (fun g24 => ?_)
      refine Tm_iald (pc := 45) C 9 x1.toNat ⟨by decide, by decide⟩ g24 rfl dX13_runScript_45 (fun r25 => ?_)
      refine T_aload_n (pc := 46) C dX13_runScript_46 rfl 0 rfl ?_
      refine Tm_getA (pc := 47) C 15 10 (by decide) (fun _ => rfl) kw_485 rfl dX13_runScript_47 ?_
      refine T_iconst (pc := 50) C dX13_runScript_50 ?_
      refine T_iload_n (pc := 51) C dX13_runScript_51 rfl 1 rfl ?_
      refine T_imul (pc := 52) C dX13_runScript_52 ?_
      refine T_guard (fun g26 => ?_)
      refine Tm_iald (pc := 53) C 10 (4 * x1).toNat ⟨by decide, by decide⟩ g26 rfl dX13_runScript_53 (fun r27 => ?_)
      refine T_aload_n (pc := 54) C dX13_runScript_54 rfl 0 rfl ?_
      refine Tm_getA (pc := 55) C 15 10 (by decide) (fun _ => rfl) kw_485 rfl dX13_runScript_55 ?_
      refine T_iconst (pc := 58) C dX13_runScript_58 ?_
      refine T_iload_n (pc := 59) C dX13_runScript_59 rfl 1 rfl ?_
      refine T_imul (pc := 60) C dX13_runScript_60 ?_
      refine T_iconst (pc := 61) C dX13_runScript_61 ?_
      refine T_iadd (pc := 62) C dX13_runScript_62 ?_
      refine T_guard (fun g28 => ?_)
      refine Tm_iald (pc := 63) C 10 ((4 * x1) + 1).toNat ⟨by decide, by decide⟩ g28 rfl dX13_runScript_63 (fun r29 => ?_)
      refine T_aload_n (pc := 64) C dX13_runScript_64 rfl 0 rfl ?_
      refine Tm_getA (pc := 65) C 15 10 (by decide) (fun _ => rfl) kw_485 rfl dX13_runScript_65 ?_
      refine T_iconst (pc := 68) C dX13_runScript_68 ?_
      refine T_iload_n (pc := 69) C dX13_runScript_69 rfl 1 rfl ?_
      refine T_imul (pc := 70) C dX13_runScript_70 ?_
      refine T_iconst (pc := 71) C dX13_runScript_71 ?_
      refine T_iadd (pc := 72) C dX13_runScript_72 ?_
      refine T_guard (fun g30 => ?_)
      refine Tm_iald (pc := 73) C 10 ((4 * x1) + 2).toNat ⟨by decide, by decide⟩ g30 rfl dX13_runScript_73 (fun r31 => ?_)
      refine T_aload_n (pc := 74) C dX13_runScript_74 rfl 0 rfl ?_
      refine Tm_getA (pc := 75) C 15 10 (by decide) (fun _ => rfl) kw_485 rfl dX13_runScript_75 ?_
      refine T_iconst (pc := 78) C dX13_runScript_78 ?_
      refine T_iload_n (pc := 79) C dX13_runScript_79 rfl 1 rfl ?_
      refine T_imul (pc := 80) C dX13_runScript_80 ?_
      refine T_iconst (pc := 81) C dX13_runScript_81 ?_
      refine T_iadd (pc := 82) C dX13_runScript_82 ?_
      refine T_guard (fun g32 => ?_)
      refine Tm_iald (pc := 83) C 10 ((4 * x1) + 3).toNat ⟨by decide, by decide⟩ g32 rfl dX13_runScript_83 (fun r33 => ?_)
      refine T_callVi (pc := 84) C [vi (s0 9 x1.toNat), vi (s0 10 (4 * x1).toNat), vi (s0 10 ((4 * x1) + 1).toNat), vi (s0 10 ((4 * x1) + 2).toNat), vi (s0 10 ((4 * x1) + 3).toNat)] [] (fun o h9 hw => ct_X13_cannot N s0 (s0 9 x1.toNat) (s0 10 (4 * x1).toNat) (s0 10 ((4 * x1) + 1).toNat) (s0 10 ((4 * x1) + 2).toNat) (s0 10 ((4 * x1) + 3).toNat) r25 r27 r29 r31 r33 hw o h9) kw_514 cm_X13_cannot rcm rfl rfl (Nat.le_of_ble_eq_true rfl) (by decide) (a' := 0) (b' := 0) ⟨rfl, rfl⟩ dX13_runScript_84 (fun v34 hv34 => ?_)
      refine T_if_ne (pc := 87) C 93 dX13_runScript_87 rfl hv34.1 (fun c35 => ?_) (fun c35 => ?_)
      · refine T_aload_n (pc := 93) C dX13_runScript_93 rfl 0 rfl ?_
        refine Tm_getA (pc := 94) C 1 2 (by decide) (fun _ => rfl) kw_153 rfl dX13_runScript_94 ?_
        refine T_iconst (pc := 97) C dX13_runScript_97 ?_
        refine T_aload_n (pc := 98) C dX13_runScript_98 rfl 0 rfl ?_
        refine Tm_getA (pc := 99) C 0 1 (by decide) (fun _ => rfl) kw_152 rfl dX13_runScript_99 ?_
        refine T_iconst (pc := 102) C dX13_runScript_102 ?_
        refine T_callSv (pc := 103) C [.ref (ad 2), vi 0, .ref (ad 1), vi 0] [] (fun o h9 hw => ct_X13_copy N v34.1 2 0 1 0 ⟨by decide, by decide⟩ (rngL rfl) ⟨by decide, by decide⟩ (rngL rfl) hw o h9) kw_154 cm_X13_copy rfl rfl (Nat.le_of_ble_eq_true rfl) (by decide) (a' := 0) (b' := 0) ⟨rfl, rfl⟩ dX13_runScript_103 (fun s36 => ?_)
        refine T_aload_n (pc := 106) C dX13_runScript_106 rfl 0 rfl ?_
        refine T_iload_n (pc := 107) C dX13_runScript_107 rfl 1 rfl ?_
        refine Tm_put (pc := 108) C (ty := .int) 14 ⟨by decide, by decide⟩ h1 kw_515 rfl (nar_I _) (fit_I _) dX13_runScript_108 ?_
        refine T_blS (fun s37 => ?_)
        refine T_aload_n (pc := 111) C dX13_runScript_111 rfl 0 rfl ?_
        refine T_iconst (pc := 112) C dX13_runScript_112 ?_
        refine T_callVi (pc := 113) C [vi 2] [] (fun o h9 hw => ct_X13_fail s37 2 (rngL rfl) hw o h9) kw_181 cm_X13_fail rcm rfl rfl (Nat.le_of_ble_eq_true rfl) (by decide) (a' := 0) (b' := 0) ⟨rfl, rfl⟩ dX13_runScript_113 (fun v38 hv38 => ?_)
        exact T_iret (pc := 116) (Sum.inl (v38.1, v38.2)) (fun h9 => h9) hv38.1 (nar_I _) (by decide) dX13_runScript_116
      · refine T_goto (pc := 90) C 117 dX13_runScript_90 rfl ?_
        refine T_iinc (pc := 117) (L' := [(1, vi (x1 + 1)), (0, .ref (ad 0))]) C dX13_runScript_117 (Nat.le_of_ble_eq_true rfl) 1 rfl rfl ?_
        refine T_goto (pc := 120) C 31 dX13_runScript_120 rfl ?_
        refine T_sub (L' := [(0, .ref (ad 0)), (1, vi (x1 + 1))]) [1, 0] rfl ?_
        exact ih v34.1 (x1 + 1) (rng_inc c23 h1 r22)
def f_X13_runScript (N : Nat) (σ : Sm) : Option (Sm × Int) :=
  (f_X13_begin N σ).bind fun s1 => (f_X13_parse N s1).bind fun s2 => (if (s2 21 0) = 0 then (f_X13_runScript_31 N N s2 0).bind (Sum.elim (fun v => some v) fun q39 => (f_X13_commit N q39 (q39 20 0)).bind fun v41 => some (v41.1, v41.2)) else bl (upm s2 13 0 (s2 19 0)) fun s43 => (f_X13_fail s43 1).bind fun v44 => some (v44.1, v44.2))
theorem ct_X13_runScript {l : Launch} {cy : ClassId} {ad : Nat → Nat} {G : va_G} (N : Nat) (σ : Sm) (hw : wfm σ) (o : Sm × Int) (h : f_X13_runScript N σ = some o) : CtI l yX13_runScript cX13_runScript 2 (some .int) rm_X13_runScript (wlm cy ad) wfm G (tym cy) [.ref (ad 0)] σ o.1 o.2 := by
  refine ctI_of (by decide) (Nat.le_of_ble_eq_true rfl) hw o o h (fun X Y w => EndI X Y cX13_runScript rm_X13_runScript .int w) (fun _ _ h => h) (fun X A Q hX C => ?_)
  replace C : Cx X (Ym cy ad G A 2 Q) cX13_runScript RX13 (some .int) rm_X13_runScript (tym cy) := C
  show T X (Ym cy ad G A 2 Q) (fun w => EndI X (Ym cy ad G A 2 Q) cX13_runScript rm_X13_runScript .int w) 0 0 0 [(0, .ref (ad 0))] [] σ (f_X13_runScript N σ)
  unfold f_X13_runScript
  refine T_aload_n (pc := 0) C dX13_runScript_0 rfl 0 rfl ?_
  refine T_callVv (pc := 1) C [] [] (fun o h9 hw => ct_X13_begin N σ hw o h9) kw_177 cm_X13_begin rcm rfl rfl (Nat.le_of_ble_eq_true rfl) (by decide) (a' := 0) (b' := 0) ⟨rfl, rfl⟩ dX13_runScript_1 (fun s1 => ?_)
  refine T_aload_n (pc := 4) C dX13_runScript_4 rfl 0 rfl ?_
  refine T_callVv (pc := 5) C [] [] (fun o h9 hw => ct_X13_parse N s1 hw o h9) kw_513 cm_X13_parse rcm rfl rfl (Nat.le_of_ble_eq_true rfl) (by decide) (a' := 0) (b' := 0) ⟨rfl, rfl⟩ dX13_runScript_5 (fun s2 => ?_)
  refine T_aload_n (pc := 8) C dX13_runScript_8 rfl 0 rfl ?_
  refine Tm_get (pc := 9) C 21 ⟨by decide, by decide⟩ kw_469 dX13_runScript_9 (fun r3 => ?_)
  refine T_if_eq (pc := 12) C 29 dX13_runScript_12 rfl r3 (fun c4 => ?_) (fun c4 => ?_)
  · refine T_iconst (pc := 29) C dX13_runScript_29 ?_
    refine T_istore_n (pc := 30) (L' := [(1, vi 0), (0, .ref (ad 0))]) C dX13_runScript_30 rfl (Nat.le_of_ble_eq_true rfl) rfl ?_
    refine T_sub (L' := [(0, .ref (ad 0)), (1, vi 0)]) [1, 0] rfl ?_
    refine T_loopS (g := fun v => v) (lp_X13_runScript_31 C N N s2 0 (rngL rfl)) (fun v h9 => h9) (fun q39 hq39 => ?_)
    refine T_aload_n (pc := 123) C dX13_runScript_123 rfl 0 rfl ?_
    refine T_aload_n (pc := 124) C dX13_runScript_124 rfl 0 rfl ?_
    refine Tm_get (pc := 125) C 20 ⟨by decide, by decide⟩ kw_486 dX13_runScript_125 (fun r40 => ?_)
    refine T_callVi (pc := 128) C [vi (q39 20 0)] [] (fun o h9 hw => ct_X13_commit N q39 (q39 20 0) r40 hw o h9) kw_180 cm_X13_commit rcm rfl rfl (Nat.le_of_ble_eq_true rfl) (by decide) (a' := 0) (b' := 0) ⟨rfl, rfl⟩ dX13_runScript_128 (fun v41 hv41 => ?_)
    exact T_iret (pc := 131) (v41.1, v41.2) (fun h9 => h9) hv41.1 (nar_I _) (by decide) dX13_runScript_131
  · refine T_aload_n (pc := 15) C dX13_runScript_15 rfl 0 rfl ?_
    refine T_aload_n (pc := 16) C dX13_runScript_16 rfl 0 rfl ?_
    refine Tm_get (pc := 17) C 19 ⟨by decide, by decide⟩ kw_470 dX13_runScript_17 (fun r42 => ?_)
    refine Tm_put (pc := 20) C (ty := .int) 13 ⟨by decide, by decide⟩ r42 kw_516 rfl (nar_I _) (fit_I _) dX13_runScript_20 ?_
    refine T_blS (fun s43 => ?_)
    refine T_aload_n (pc := 23) C dX13_runScript_23 rfl 0 rfl ?_
    refine T_iconst (pc := 24) C dX13_runScript_24 ?_
    refine T_callVi (pc := 25) C [vi 1] [] (fun o h9 hw => ct_X13_fail s43 1 (rngL rfl) hw o h9) kw_181 cm_X13_fail rcm rfl rfl (Nat.le_of_ble_eq_true rfl) (by decide) (a' := 0) (b' := 0) ⟨rfl, rfl⟩ dX13_runScript_25 (fun v44 hv44 => ?_)
    exact T_iret (pc := 28) (v44.1, v44.2) (fun h9 => h9) hv44.1 (nar_I _) (by decide) dX13_runScript_28

abbrev rm_X13_present : Room := ⟨1, 0, 0, 21⟩
theorem cm_X13_present : cmV yX13_present cX13_present 2 (some .int) 1 := ⟨kw_138, kw_145, ⟨by decide +kernel, by decide +kernel, by decide +kernel⟩, kw_519, kw_520⟩
def f_X13_present (σ : Sm) (x1 : Int) : Option (Sm × Int) :=
  (if x1 < 0 then (f_X13_checked σ 0).bind fun v2 => (if v2.2 ≤ 0 then some (v2.1, x1) else some (v2.1, 0)) else (f_X13_checked σ 1).bind fun v4 => (if v4.2 ≤ 0 then some (v4.1, x1) else some (v4.1, 0)))
theorem ct_X13_present {l : Launch} {cy : ClassId} {ad : Nat → Nat} {G : va_G} (σ : Sm) (x1 : Int) (h1 : rng x1) (hw : wfm σ) (o : Sm × Int) (h : f_X13_present σ x1 = some o) : CtI l yX13_present cX13_present 2 (some .int) rm_X13_present (wlm cy ad) wfm G (tym cy) [.ref (ad 0), vi x1] σ o.1 o.2 := by
  refine ctI_of (by decide) (Nat.le_of_ble_eq_true rfl) hw o o h (fun X Y w => EndI X Y cX13_present rm_X13_present .int w) (fun _ _ h => h) (fun X A Q hX C => ?_)
  replace C : Cx X (Ym cy ad G A 2 Q) cX13_present RX13 (some .int) rm_X13_present (tym cy) := C
  show T X (Ym cy ad G A 2 Q) (fun w => EndI X (Ym cy ad G A 2 Q) cX13_present rm_X13_present .int w) 0 0 0 [(0, .ref (ad 0)), (1, vi x1)] [] σ (f_X13_present σ x1)
  unfold f_X13_present
  refine T_aload_n (pc := 0) C dX13_present_0 rfl 0 rfl ?_
  refine T_iload_n (pc := 1) C dX13_present_1 rfl 1 rfl ?_
  refine T_if_lt (pc := 2) C 9 dX13_present_2 rfl h1 (fun c1 => ?_) (fun c1 => ?_)
  · refine T_iconst (pc := 9) C dX13_present_9 ?_
    refine T_callVi (pc := 10) C [vi 0] [] (fun o h9 hw => ct_X13_checked σ 0 (Or.inl rfl) hw o h9) kw_321 cm_X13_checked rcm rfl rfl (Nat.le_of_ble_eq_true rfl) (by decide) (a' := 0) (b' := 0) ⟨rfl, rfl⟩ dX13_present_10 (fun v2 hv2 => ?_)
    refine T_if_le (pc := 13) C 20 dX13_present_13 rfl hv2.1 (fun c3 => ?_) (fun c3 => ?_)
    · refine T_iload_n (pc := 20) C dX13_present_20 rfl 1 rfl ?_
      exact T_iret (pc := 21) (v2.1, x1) (fun h9 => h9) h1 (nar_I _) (by decide) dX13_present_21
    · refine T_iconst (pc := 16) C dX13_present_16 ?_
      refine T_goto (pc := 17) C 21 dX13_present_17 rfl ?_
      exact T_iret (pc := 21) (v2.1, 0) (fun h9 => h9) (rngL rfl) (nar_I _) (by decide) dX13_present_21
  · refine T_iconst (pc := 5) C dX13_present_5 ?_
    refine T_goto (pc := 6) C 10 dX13_present_6 rfl ?_
    refine T_callVi (pc := 10) C [vi 1] [] (fun o h9 hw => ct_X13_checked σ 1 (Or.inr rfl) hw o h9) kw_321 cm_X13_checked rcm rfl rfl (Nat.le_of_ble_eq_true rfl) (by decide) (a' := 0) (b' := 0) ⟨rfl, rfl⟩ dX13_present_10 (fun v4 hv4 => ?_)
    refine T_if_le (pc := 13) C 20 dX13_present_13 rfl hv4.1 (fun c5 => ?_) (fun c5 => ?_)
    · refine T_iload_n (pc := 20) C dX13_present_20 rfl 1 rfl ?_
      exact T_iret (pc := 21) (v4.1, x1) (fun h9 => h9) h1 (nar_I _) (by decide) dX13_present_21
    · refine T_iconst (pc := 16) C dX13_present_16 ?_
      refine T_goto (pc := 17) C 21 dX13_present_17 rfl ?_
      exact T_iret (pc := 21) (v4.1, 0) (fun h9 => h9) (rngL rfl) (nar_I _) (by decide) dX13_present_21

abbrev rm_X13_errorPosition : Room := ⟨2, 0, 0, 42⟩
theorem cm_X13_errorPosition : cmV yX13_errorPosition cX13_errorPosition 1 (some .int) 0 := ⟨kw_139, kw_145, ⟨by decide +kernel, by decide +kernel, by decide +kernel⟩, kw_522, kw_523⟩
def f_X13_errorPosition (σ : Sm) : Option (Sm × Int) :=
  (f_X13_present σ (σ 13 0)).bind fun v2 => some (v2.1, v2.2)
theorem ct_X13_errorPosition {l : Launch} {cy : ClassId} {ad : Nat → Nat} {G : va_G} (σ : Sm) (hw : wfm σ) (o : Sm × Int) (h : f_X13_errorPosition σ = some o) : CtI l yX13_errorPosition cX13_errorPosition 1 (some .int) rm_X13_errorPosition (wlm cy ad) wfm G (tym cy) [.ref (ad 0)] σ o.1 o.2 := by
  refine ctI_of (by decide) (Nat.le_of_ble_eq_true rfl) hw o o h (fun X Y w => EndI X Y cX13_errorPosition rm_X13_errorPosition .int w) (fun _ _ h => h) (fun X A Q hX C => ?_)
  replace C : Cx X (Ym cy ad G A 1 Q) cX13_errorPosition RX13 (some .int) rm_X13_errorPosition (tym cy) := C
  show T X (Ym cy ad G A 1 Q) (fun w => EndI X (Ym cy ad G A 1 Q) cX13_errorPosition rm_X13_errorPosition .int w) 0 0 0 [(0, .ref (ad 0))] [] σ (f_X13_errorPosition σ)
  unfold f_X13_errorPosition
  refine T_aload_n (pc := 0) C dX13_errorPosition_0 rfl 0 rfl ?_
  refine T_aload_n (pc := 1) C dX13_errorPosition_1 rfl 0 rfl ?_
  refine Tm_get (pc := 2) C 13 ⟨by decide, by decide⟩ kw_516 dX13_errorPosition_2 (fun r1 => ?_)
  refine T_callVi (pc := 5) C [vi (σ 13 0)] [] (fun o h9 hw => ct_X13_present σ (σ 13 0) r1 hw o h9) kw_521 cm_X13_present rcm rfl rfl (Nat.le_of_ble_eq_true rfl) (by decide) (a' := 0) (b' := 0) ⟨rfl, rfl⟩ dX13_errorPosition_5 (fun v2 hv2 => ?_)
  exact T_iret (pc := 8) (v2.1, v2.2) (fun h9 => h9) hv2.1 (nar_I _) (by decide) dX13_errorPosition_8

abbrev rm_X13_failedCommand : Room := ⟨2, 0, 0, 42⟩
theorem cm_X13_failedCommand : cmV yX13_failedCommand cX13_failedCommand 1 (some .int) 0 := ⟨kw_140, kw_145, ⟨by decide +kernel, by decide +kernel, by decide +kernel⟩, kw_524, kw_525⟩
def f_X13_failedCommand (σ : Sm) : Option (Sm × Int) :=
  (f_X13_present σ (σ 14 0)).bind fun v2 => some (v2.1, v2.2)
theorem ct_X13_failedCommand {l : Launch} {cy : ClassId} {ad : Nat → Nat} {G : va_G} (σ : Sm) (hw : wfm σ) (o : Sm × Int) (h : f_X13_failedCommand σ = some o) : CtI l yX13_failedCommand cX13_failedCommand 1 (some .int) rm_X13_failedCommand (wlm cy ad) wfm G (tym cy) [.ref (ad 0)] σ o.1 o.2 := by
  refine ctI_of (by decide) (Nat.le_of_ble_eq_true rfl) hw o o h (fun X Y w => EndI X Y cX13_failedCommand rm_X13_failedCommand .int w) (fun _ _ h => h) (fun X A Q hX C => ?_)
  replace C : Cx X (Ym cy ad G A 1 Q) cX13_failedCommand RX13 (some .int) rm_X13_failedCommand (tym cy) := C
  show T X (Ym cy ad G A 1 Q) (fun w => EndI X (Ym cy ad G A 1 Q) cX13_failedCommand rm_X13_failedCommand .int w) 0 0 0 [(0, .ref (ad 0))] [] σ (f_X13_failedCommand σ)
  unfold f_X13_failedCommand
  refine T_aload_n (pc := 0) C dX13_failedCommand_0 rfl 0 rfl ?_
  refine T_aload_n (pc := 1) C dX13_failedCommand_1 rfl 0 rfl ?_
  refine Tm_get (pc := 2) C 14 ⟨by decide, by decide⟩ kw_515 dX13_failedCommand_2 (fun r1 => ?_)
  refine T_callVi (pc := 5) C [vi (σ 14 0)] [] (fun o h9 hw => ct_X13_present σ (σ 14 0) r1 hw o h9) kw_521 cm_X13_present rcm rfl rfl (Nat.le_of_ble_eq_true rfl) (by decide) (a' := 0) (b' := 0) ⟨rfl, rfl⟩ dX13_failedCommand_5 (fun v2 hv2 => ?_)
  exact T_iret (pc := 8) (v2.1, v2.2) (fun h9 => h9) hv2.1 (nar_I _) (by decide) dX13_failedCommand_8

abbrev rm_X13_undo : Room := ⟨1, 0, 0, 24⟩
theorem cm_X13_undo : cmV yX13_undo cX13_undo 1 (some .int) 0 := ⟨kw_141, kw_145, ⟨by decide +kernel, by decide +kernel, by decide +kernel⟩, kw_526, kw_527⟩
def f_X13_undo (N : Nat) (σ : Sm) : Option (Sm × Int) :=
  (if (σ 12 0) ≤ 0 then (f_X13_checked σ 0).bind fun v3 => (if v3.2 ≤ 0 then if rng ((v3.1 12 0) - 1) then bl (upm v3.1 12 0 ((v3.1 12 0) - 1)) fun s7 => if rng (340 * (s7 12 0)) then (f_X13_copy N s7 4 (340 * (s7 12 0)) 1 0).bind fun s10 => some (s10, (s10 12 0)) else none else none else some (v3.1, 0)) else (f_X13_checked σ 1).bind fun v12 => (if v12.2 ≤ 0 then if rng ((v12.1 12 0) - 1) then bl (upm v12.1 12 0 ((v12.1 12 0) - 1)) fun s16 => if rng (340 * (s16 12 0)) then (f_X13_copy N s16 4 (340 * (s16 12 0)) 1 0).bind fun s19 => some (s19, (s19 12 0)) else none else none else some (v12.1, 0)))
theorem ct_X13_undo {l : Launch} {cy : ClassId} {ad : Nat → Nat} {G : va_G} (N : Nat) (σ : Sm) (hw : wfm σ) (o : Sm × Int) (h : f_X13_undo N σ = some o) : CtI l yX13_undo cX13_undo 1 (some .int) rm_X13_undo (wlm cy ad) wfm G (tym cy) [.ref (ad 0)] σ o.1 o.2 := by
  refine ctI_of (by decide) (Nat.le_of_ble_eq_true rfl) hw o o h (fun X Y w => EndI X Y cX13_undo rm_X13_undo .int w) (fun _ _ h => h) (fun X A Q hX C => ?_)
  replace C : Cx X (Ym cy ad G A 1 Q) cX13_undo RX13 (some .int) rm_X13_undo (tym cy) := C
  show T X (Ym cy ad G A 1 Q) (fun w => EndI X (Ym cy ad G A 1 Q) cX13_undo rm_X13_undo .int w) 0 0 0 [(0, .ref (ad 0))] [] σ (f_X13_undo N σ)
  unfold f_X13_undo
  refine T_aload_n (pc := 0) C dX13_undo_0 rfl 0 rfl ?_
  refine T_aload_n (pc := 1) C dX13_undo_1 rfl 0 rfl ?_
  refine Tm_get (pc := 2) C 12 ⟨by decide, by decide⟩ kw_157 dX13_undo_2 (fun r1 => ?_)
  refine T_if_le (pc := 5) C 12 dX13_undo_5 rfl r1 (fun c2 => ?_) (fun c2 => ?_)
  · refine T_iconst (pc := 12) C dX13_undo_12 ?_
    refine T_callVi (pc := 13) C [vi 0] [] (fun o h9 hw => ct_X13_checked σ 0 (Or.inl rfl) hw o h9) kw_321 cm_X13_checked rcm rfl rfl (Nat.le_of_ble_eq_true rfl) (by decide) (a' := 0) (b' := 0) ⟨rfl, rfl⟩ dX13_undo_13 (fun v3 hv3 => ?_)
    refine T_if_le (pc := 16) C 21 dX13_undo_16 rfl hv3.1 (fun c4 => ?_) (fun c4 => ?_)
    · refine T_aload_n (pc := 21) C dX13_undo_21 rfl 0 rfl ?_
      refine T_dup (pc := 22) C dX13_undo_22 rfl ?_
      refine Tm_get (pc := 23) C 12 ⟨by decide, by decide⟩ kw_157 dX13_undo_23 (fun r5 => ?_)
      refine T_iconst (pc := 26) C dX13_undo_26 ?_
      refine T_isub (pc := 27) C dX13_undo_27 ?_
      refine T_guard (fun g6 => ?_)
      refine Tm_put (pc := 28) C (ty := .int) 12 ⟨by decide, by decide⟩ g6 kw_157 rfl (nar_I _) (fit_I _) dX13_undo_28 ?_
      refine T_blS (fun s7 => ?_)
      refine T_aload_n (pc := 31) C dX13_undo_31 rfl 0 rfl ?_
      refine Tm_getA (pc := 32) C 3 4 (by decide) (fun _ => rfl) kw_158 rfl dX13_undo_32 ?_
      refine T_sipush (pc := 35) C dX13_undo_35 (by decide) ?_
      refine T_aload_n (pc := 38) C dX13_undo_38 rfl 0 rfl ?_
      refine Tm_get (pc := 39) C 12 ⟨by decide, by decide⟩ kw_157 dX13_undo_39 (fun r8 => ?_)
      refine T_imul (pc := 42) C dX13_undo_42 ?_
      refine T_aload_n (pc := 43) C dX13_undo_43 rfl 0 rfl ?_
      refine Tm_getA (pc := 44) C 0 1 (by decide) (fun _ => rfl) kw_152 rfl dX13_undo_44 ?_
      refine T_iconst (pc := 47) C dX13_undo_47 ?_
      refine T_guard (fun g9 => ?_)
      refine T_callSv (pc := 48) C [.ref (ad 4), vi (340 * (s7 12 0)), .ref (ad 1), vi 0] [] (fun o h9 hw => ct_X13_copy N s7 4 (340 * (s7 12 0)) 1 0 ⟨by decide, by decide⟩ g9 ⟨by decide, by decide⟩ (rngL rfl) hw o h9) kw_154 cm_X13_copy rfl rfl (Nat.le_of_ble_eq_true rfl) (by decide) (a' := 0) (b' := 0) ⟨rfl, rfl⟩ dX13_undo_48 (fun s10 => ?_)
      refine T_aload_n (pc := 51) C dX13_undo_51 rfl 0 rfl ?_
      refine Tm_get (pc := 52) C 12 ⟨by decide, by decide⟩ kw_157 dX13_undo_52 (fun r11 => ?_)
      exact T_iret (pc := 55) (s10, (s10 12 0)) (fun h9 => h9) r11 (nar_I _) (by decide) dX13_undo_55
    · refine T_iconst (pc := 19) C dX13_undo_19 ?_
      exact T_iret (pc := 20) (v3.1, 0) (fun h9 => h9) (rngL rfl) (nar_I _) (by decide) dX13_undo_20
  · refine T_iconst (pc := 8) C dX13_undo_8 ?_
    refine T_goto (pc := 9) C 13 dX13_undo_9 rfl ?_
    refine T_callVi (pc := 13) C [vi 1] [] (fun o h9 hw => ct_X13_checked σ 1 (Or.inr rfl) hw o h9) kw_321 cm_X13_checked rcm rfl rfl (Nat.le_of_ble_eq_true rfl) (by decide) (a' := 0) (b' := 0) ⟨rfl, rfl⟩ dX13_undo_13 (fun v12 hv12 => ?_)
    refine T_if_le (pc := 16) C 21 dX13_undo_16 rfl hv12.1 (fun c13 => ?_) (fun c13 => ?_)
    · refine T_aload_n (pc := 21) C dX13_undo_21 rfl 0 rfl ?_
      refine T_dup (pc := 22) C dX13_undo_22 rfl ?_
      refine Tm_get (pc := 23) C 12 ⟨by decide, by decide⟩ kw_157 dX13_undo_23 (fun r14 => ?_)
      refine T_iconst (pc := 26) C dX13_undo_26 ?_
      refine T_isub (pc := 27) C dX13_undo_27 ?_
      refine T_guard (fun g15 => ?_)
      refine Tm_put (pc := 28) C (ty := .int) 12 ⟨by decide, by decide⟩ g15 kw_157 rfl (nar_I _) (fit_I _) dX13_undo_28 ?_
      refine T_blS (fun s16 => ?_)
      refine T_aload_n (pc := 31) C dX13_undo_31 rfl 0 rfl ?_
      refine Tm_getA (pc := 32) C 3 4 (by decide) (fun _ => rfl) kw_158 rfl dX13_undo_32 ?_
      refine T_sipush (pc := 35) C dX13_undo_35 (by decide) ?_
      refine T_aload_n (pc := 38) C dX13_undo_38 rfl 0 rfl ?_
      refine Tm_get (pc := 39) C 12 ⟨by decide, by decide⟩ kw_157 dX13_undo_39 (fun r17 => ?_)
      refine T_imul (pc := 42) C dX13_undo_42 ?_
      refine T_aload_n (pc := 43) C dX13_undo_43 rfl 0 rfl ?_
      refine Tm_getA (pc := 44) C 0 1 (by decide) (fun _ => rfl) kw_152 rfl dX13_undo_44 ?_
      refine T_iconst (pc := 47) C dX13_undo_47 ?_
      refine T_guard (fun g18 => ?_)
      refine T_callSv (pc := 48) C [.ref (ad 4), vi (340 * (s16 12 0)), .ref (ad 1), vi 0] [] (fun o h9 hw => ct_X13_copy N s16 4 (340 * (s16 12 0)) 1 0 ⟨by decide, by decide⟩ g18 ⟨by decide, by decide⟩ (rngL rfl) hw o h9) kw_154 cm_X13_copy rfl rfl (Nat.le_of_ble_eq_true rfl) (by decide) (a' := 0) (b' := 0) ⟨rfl, rfl⟩ dX13_undo_48 (fun s19 => ?_)
      refine T_aload_n (pc := 51) C dX13_undo_51 rfl 0 rfl ?_
      refine Tm_get (pc := 52) C 12 ⟨by decide, by decide⟩ kw_157 dX13_undo_52 (fun r20 => ?_)
      exact T_iret (pc := 55) (s19, (s19 12 0)) (fun h9 => h9) r20 (nar_I _) (by decide) dX13_undo_55
    · refine T_iconst (pc := 19) C dX13_undo_19 ?_
      exact T_iret (pc := 20) (v12.1, 0) (fun h9 => h9) (rngL rfl) (nar_I _) (by decide) dX13_undo_20

abbrev rm_X13_save : Room := ⟨1, 0, 0, 24⟩
theorem cm_X13_save : cmV yX13_save cX13_save 1 (some .int) 0 := ⟨kw_142, kw_145, ⟨by decide +kernel, by decide +kernel, by decide +kernel⟩, kw_530, kw_531⟩
def f_X13_save (N : Nat) (σ : Sm) : Option (Sm × Int) :=
  bl (upm σ 11 0 0) fun s1 => (f_X13_copy N s1 1 0 3 0).bind fun s2 => bl (upm s2 15 0 1) fun s3 => some (s3, (s3 1 3))
theorem ct_X13_save {l : Launch} {cy : ClassId} {ad : Nat → Nat} {G : va_G} (N : Nat) (σ : Sm) (hw : wfm σ) (o : Sm × Int) (h : f_X13_save N σ = some o) : CtI l yX13_save cX13_save 1 (some .int) rm_X13_save (wlm cy ad) wfm G (tym cy) [.ref (ad 0)] σ o.1 o.2 := by
  refine ctI_of (by decide) (Nat.le_of_ble_eq_true rfl) hw o o h (fun X Y w => EndI X Y cX13_save rm_X13_save .int w) (fun _ _ h => h) (fun X A Q hX C => ?_)
  replace C : Cx X (Ym cy ad G A 1 Q) cX13_save RX13 (some .int) rm_X13_save (tym cy) := C
  show T X (Ym cy ad G A 1 Q) (fun w => EndI X (Ym cy ad G A 1 Q) cX13_save rm_X13_save .int w) 0 0 0 [(0, .ref (ad 0))] [] σ (f_X13_save N σ)
  unfold f_X13_save
  refine T_aload_n (pc := 0) C dX13_save_0 rfl 0 rfl ?_
  refine T_iconst (pc := 1) C dX13_save_1 ?_
  refine Tm_put (pc := 2) C (ty := .int) 11 ⟨by decide, by decide⟩ (rngL rfl) kw_144 rfl (nar_I _) (fit_I _) dX13_save_2 ?_
  refine T_blS (fun s1 => ?_)
  refine T_aload_n (pc := 5) C dX13_save_5 rfl 0 rfl ?_
  refine Tm_getA (pc := 6) C 0 1 (by decide) (fun _ => rfl) kw_152 rfl dX13_save_6 ?_
  refine T_iconst (pc := 9) C dX13_save_9 ?_
  refine T_aload_n (pc := 10) C dX13_save_10 rfl 0 rfl ?_
  refine Tm_getA (pc := 11) C 2 3 (by decide) (fun _ => rfl) kw_528 rfl dX13_save_11 ?_
  refine T_iconst (pc := 14) C dX13_save_14 ?_
  refine T_callSv (pc := 15) C [.ref (ad 1), vi 0, .ref (ad 3), vi 0] [] (fun o h9 hw => ct_X13_copy N s1 1 0 3 0 ⟨by decide, by decide⟩ (rngL rfl) ⟨by decide, by decide⟩ (rngL rfl) hw o h9) kw_154 cm_X13_copy rfl rfl (Nat.le_of_ble_eq_true rfl) (by decide) (a' := 0) (b' := 0) ⟨rfl, rfl⟩ dX13_save_15 (fun s2 => ?_)
  refine T_aload_n (pc := 18) C dX13_save_18 rfl 0 rfl ?_
  refine T_iconst (pc := 19) C dX13_save_19 ?_
  refine Tm_put (pc := 20) C (ty := .boolean) 15 ⟨by decide, by decide⟩ (rngL rfl) kw_529 rfl (nar_Z (Or.inr rfl)) (fit_Z (Or.inr rfl)) dX13_save_20 ?_
  refine T_blS (fun s3 => ?_)
  refine T_aload_n (pc := 23) C dX13_save_23 rfl 0 rfl ?_
  refine Tm_getA (pc := 24) C 0 1 (by decide) (fun _ => rfl) kw_152 rfl dX13_save_24 ?_
  refine T_iconst (pc := 27) C dX13_save_27 ?_
  refine Tm_iald (pc := 28) C 1 3 ⟨by decide, by decide⟩ ⟨by decide, by decide⟩ rfl dX13_save_28 (fun r4 => ?_)
  exact T_iret (pc := 29) (s3, (s3 1 3)) (fun h9 => h9) r4 (nar_I _) (by decide) dX13_save_29

abbrev rm_X13_restore : Room := ⟨1, 0, 0, 24⟩
theorem cm_X13_restore : cmV yX13_restore cX13_restore 1 (some .int) 0 := ⟨kw_143, kw_145, ⟨by decide +kernel, by decide +kernel, by decide +kernel⟩, kw_532, kw_533⟩
def f_X13_restore (N : Nat) (σ : Sm) : Option (Sm × Int) :=
  if bit (σ 15 0) then (f_X13_checked σ (σ 15 0)).bind fun v3 => (if v3.2 ≤ 0 then (f_X13_copy N v3.1 3 0 1 0).bind fun s5 => bl (upm s5 12 0 0) fun s6 => some (s6, (s6 1 3)) else some (v3.1, 0)) else none
theorem ct_X13_restore {l : Launch} {cy : ClassId} {ad : Nat → Nat} {G : va_G} (N : Nat) (σ : Sm) (hw : wfm σ) (o : Sm × Int) (h : f_X13_restore N σ = some o) : CtI l yX13_restore cX13_restore 1 (some .int) rm_X13_restore (wlm cy ad) wfm G (tym cy) [.ref (ad 0)] σ o.1 o.2 := by
  refine ctI_of (by decide) (Nat.le_of_ble_eq_true rfl) hw o o h (fun X Y w => EndI X Y cX13_restore rm_X13_restore .int w) (fun _ _ h => h) (fun X A Q hX C => ?_)
  replace C : Cx X (Ym cy ad G A 1 Q) cX13_restore RX13 (some .int) rm_X13_restore (tym cy) := C
  show T X (Ym cy ad G A 1 Q) (fun w => EndI X (Ym cy ad G A 1 Q) cX13_restore rm_X13_restore .int w) 0 0 0 [(0, .ref (ad 0))] [] σ (f_X13_restore N σ)
  unfold f_X13_restore
  refine T_aload_n (pc := 0) C dX13_restore_0 rfl 0 rfl ?_
  refine T_aload_n (pc := 1) C dX13_restore_1 rfl 0 rfl ?_
  refine Tm_get (pc := 2) C 15 ⟨by decide, by decide⟩ kw_529 dX13_restore_2 (fun r1 => ?_)
  refine T_guard (fun g2 => ?_)
  refine T_callVi (pc := 5) C [vi (σ 15 0)] [] (fun o h9 hw => ct_X13_checked σ (σ 15 0) g2 hw o h9) kw_321 cm_X13_checked rcm rfl rfl (Nat.le_of_ble_eq_true rfl) (by decide) (a' := 0) (b' := 0) ⟨rfl, rfl⟩ dX13_restore_5 (fun v3 hv3 => ?_)
  refine T_if_le (pc := 8) C 13 dX13_restore_8 rfl hv3.1 (fun c4 => ?_) (fun c4 => ?_)
  · refine T_aload_n (pc := 13) C dX13_restore_13 rfl 0 rfl ?_
    refine Tm_getA (pc := 14) C 2 3 (by decide) (fun _ => rfl) kw_528 rfl dX13_restore_14 ?_
    refine T_iconst (pc := 17) C dX13_restore_17 ?_
    refine T_aload_n (pc := 18) C dX13_restore_18 rfl 0 rfl ?_
    refine Tm_getA (pc := 19) C 0 1 (by decide) (fun _ => rfl) kw_152 rfl dX13_restore_19 ?_
    refine T_iconst (pc := 22) C dX13_restore_22 ?_
    refine T_callSv (pc := 23) C [.ref (ad 3), vi 0, .ref (ad 1), vi 0] [] (fun o h9 hw => ct_X13_copy N v3.1 3 0 1 0 ⟨by decide, by decide⟩ (rngL rfl) ⟨by decide, by decide⟩ (rngL rfl) hw o h9) kw_154 cm_X13_copy rfl rfl (Nat.le_of_ble_eq_true rfl) (by decide) (a' := 0) (b' := 0) ⟨rfl, rfl⟩ dX13_restore_23 (fun s5 => ?_)
    refine T_aload_n (pc := 26) C dX13_restore_26 rfl 0 rfl ?_
    refine T_iconst (pc := 27) C dX13_restore_27 ?_
    refine Tm_put (pc := 28) C (ty := .int) 12 ⟨by decide, by decide⟩ (rngL rfl) kw_157 rfl (nar_I _) (fit_I _) dX13_restore_28 ?_
    refine T_blS (fun s6 => ?_)
    refine T_aload_n (pc := 31) C dX13_restore_31 rfl 0 rfl ?_
    refine Tm_getA (pc := 32) C 0 1 (by decide) (fun _ => rfl) kw_152 rfl dX13_restore_32 ?_
    refine T_iconst (pc := 35) C dX13_restore_35 ?_
    refine Tm_iald (pc := 36) C 1 3 ⟨by decide, by decide⟩ ⟨by decide, by decide⟩ rfl dX13_restore_36 (fun r7 => ?_)
    exact T_iret (pc := 37) (s6, (s6 1 3)) (fun h9 => h9) r7 (nar_I _) (by decide) dX13_restore_37
  · refine T_iconst (pc := 11) C dX13_restore_11 ?_
    exact T_iret (pc := 12) (v3.1, 0) (fun h9 => h9) (rngL rfl) (nar_I _) (by decide) dX13_restore_12
