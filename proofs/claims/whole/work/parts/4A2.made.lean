/-! the constructors -/
abbrev qA (f : Nat → Option Nat) : (Nat → Int32) ⊕ (Nat → Int64) ⊕ (Nat → UInt32) ⊕ (Nat → UInt64) ⊕ (Nat → Option Nat) := .inr (.inr (.inr (.inr f)))
def tkE (a : Nat) : Nat × va_E := (a, .inr (11, [vi 0, vi 0, vi 0, vi 0, vi 0, vi 0]))
def lnE (cy : Nat → ClassId) (p : Nat × Nat) : va_W := [(p.1, .inr (8, [vi 1, vi 0, vi 1, vi 0, vi 1, vi 0, vi 0, .ref p.2])), (p.2, .inl (cy 0, 6, .inl (fun _ => 0)))]
def w11 (cy : Nat → ClassId) (q r : Nat) (as : List Nat) : va_W := (q, .inr (12, [.ref r, vi 0, vi 0, vi 0, vi 0, vi 0])) :: (r, .inl (cy 4, 16, qA (fun j => (as[j]?).map id))) :: as.map tkE
abbrev ND : Type := Nat × Nat × Nat × Nat × Nat × Nat × Nat × List Nat × List (Nat × Nat)
def w8 (cy : Nat → ClassId) (d : ND) : va_W := (d.1, .inr (9, [vi 0, vi 0, vi 0, .ref d.2.1, .ref d.2.2.1, vi 0, .ref d.2.2.2.1, vi 0, .ref d.2.2.2.2.1, .ref d.2.2.2.2.2.1])) :: (d.2.1, .inl (cy 0, 10, .inl (fun _ => 0))) :: (d.2.2.1, .inl (cy 1, 10, .inl (fun _ => 0))) :: (d.2.2.2.1, .inl (cy 0, 100, .inl (fun _ => 0))) :: (d.2.2.2.2.1, .inl (cy 3, 5, qA (fun j => (d.2.2.2.2.2.2.2.2[j]?).map Prod.fst))) :: (w11 cy d.2.2.2.2.2.1 d.2.2.2.2.2.2.1 d.2.2.2.2.2.2.2.1 ++ d.2.2.2.2.2.2.2.2.flatMap (lnE cy))
def g8 (d : ND) : Prop := d.2.2.2.2.2.2.2.1.length = 16 ∧ d.2.2.2.2.2.2.2.2.length = 5
def w6 (cy : Nat → ClassId) (q r : Nat) (ds : List ND) : va_W := (q, .inr (7, [.ref r, vi 0, vi 0])) :: (r, .inl (cy 5, 8, qA (fun j => (ds[j]?).map Prod.fst))) :: ds.flatMap (w8 cy)
theorem va_up_app {S : Type} (f : S → Nat) (as : List S) (x : S) (y : Nat) (hy : y = f x) : va_up (fun j => (as[j]?).map f) as.length (some y) = fun j => ((as ++ [x])[j]?).map f := by
  funext j
  unfold va_up
  by_cases h : j = as.length
  · subst h; simp [hy]
  · rw [if_neg h]
    dsimp only
    rcases Nat.lt_or_gt_of_ne h with h2 | h2
    · rw [List.getElem?_append_left h2]
    · have e1 : as[j]? = none := List.getElem?_eq_none (by omega)
      have e2 : (as ++ [x])[j]? = none := List.getElem?_eq_none (by rw [List.length_append, List.length_singleton]; omega)
      rw [e1, e2]
theorem get_app {S : Type} (l r : List S) (x : S) : (l ++ x :: r)[l.length]? = some x := by simp
theorem J_cast {S : Type} {X : vjX} {Y : vjY S} {a b a' b' pc : Nat} {L L' : List (Nat × Value)} {st : List Value} {σ σ' : S} (ha : a = a') (hb : b = b') (hL : L = L') (hs : σ = σ') (K : J X Y a' b' pc L' st σ') : J X Y a b pc L st σ := by
  subst ha; subst hb; subst hL; subst hs; exact K
theorem rng_s {k : Nat} (h : k ≤ 10000) : rng (k : Int) := by unfold rng; omega
def w9 (cy : Nat → ClassId) (E : Nat → Nat → Nat) (q r1 r2 r3 k : Nat) : va_W := [(q, .inr (10, [.ref r1, vi 0, vi 0, vi 0, .ref r2, .ref r3])), (r1, .inl (cy 2, 60, .inl (fun _ => 0))), (r2, .inl (cy 6, 16, qA (fun j => if j < k then some (E 1 6) else none))), (r3, .inl (cy 0, 64, .inl (fun _ => 0)))]
theorem va_up_k {k x : Nat} : va_up (fun j => if j < k then some x else none) k (some x) = fun j => if j < k + 1 then some x else none := by
  funext j
  unfold va_up
  by_cases h : j = k
  · rw [if_pos h, if_pos (by omega)]
  · rw [if_neg h]
    dsimp only
    by_cases h2 : j < k
    · rw [if_pos h2, if_pos (by omega)]
    · rw [if_neg h2, if_neg (by omega)]
def R12_0 (cy : Nat → ClassId) (E : Nat → Nat → Nat) (q : Nat) (w : va_W) : Prop := ∃ d : ND, d.1 = q ∧ g8 d ∧ w = w8 cy d
def R12_1 (cy : Nat → ClassId) (E : Nat → Nat → Nat) (q : Nat) (w : va_W) : Prop := ∃ d : ND, d.1 = q ∧ g8 d ∧ w = w8 cy d
def R12_2 (cy : Nat → ClassId) (E : Nat → Nat → Nat) (q : Nat) (w : va_W) : Prop := ∃ d : ND, d.1 = q ∧ g8 d ∧ w = w8 cy d
def R12_3 (cy : Nat → ClassId) (E : Nat → Nat → Nat) (q : Nat) (w : va_W) : Prop := ∃ (r1 : Nat) (ds : List ND), ds.length = 8 ∧ (∀ d ∈ ds, g8 d) ∧ w = w6 cy q r1 ds
def R12_4 (cy : Nat → ClassId) (E : Nat → Nat → Nat) (q : Nat) (w : va_W) : Prop := ∃ r1 r2 r3 r4 : Nat, w = [(q, .inr (4, [.ref r1, .ref r2, .ref r3, .ref r4])), (r1, .inl (cy 0, 10, .inl (fun _ => 0))), (r2, .inl (cy 0, 10, .inl (fun _ => 0))), (r3, .inl (cy 1, 10, .inl (fun _ => 0))), (r4, .inl (cy 1, 10, .inl (fun _ => 0)))]
def R12_5 (cy : Nat → ClassId) (E : Nat → Nat → Nat) (q : Nat) (w : va_W) : Prop := ∃ r1 r2 r3 r4 : Nat, w = [(q, .inr (4, [.ref r1, .ref r2, .ref r3, .ref r4])), (r1, .inl (cy 0, 10, .inl (fun _ => 0))), (r2, .inl (cy 0, 10, .inl (fun _ => 0))), (r3, .inl (cy 1, 10, .inl (fun _ => 0))), (r4, .inl (cy 1, 10, .inl (fun _ => 0)))]
def R12_6 (cy : Nat → ClassId) (E : Nat → Nat → Nat) (q : Nat) (w : va_W) : Prop := ∃ r1 r2 : Nat, w = [(q, .inr (5, [.ref r1, .ref r2])), (r1, .inl (cy 0, 10, .inl (fun _ => 0))), (r2, .inl (cy 0, 100, .inl (fun _ => 0)))]
def R12_7 (cy : Nat → ClassId) (E : Nat → Nat → Nat) (q : Nat) (w : va_W) : Prop := ∃ r1 r2 r3 r4 r5 r6 : Nat, w = [(q, .inr (6, [.ref r1, .ref r2, .ref r3, vi 0, .ref r4, .ref r5, .ref r6])), (r1, .inl (cy 0, 100, .inl (fun _ => 0))), (r2, .inl (cy 0, 10, .inl (fun _ => 0))), (r3, .inl (cy 0, 10, .inl (fun _ => 0))), (r4, .inl (cy 0, 30, .inl (fun _ => 0))), (r5, .inl (cy 0, 30, .inl (fun _ => 0))), (r6, .inl (cy 0, 30, .inl (fun _ => 0)))]
def R12_8 (cy : Nat → ClassId) (E : Nat → Nat → Nat) (q : Nat) (w : va_W) : Prop := ∃ r1 r2 r3 : Nat, w = w9 cy E q r1 r2 r3 16
def R12_9 (cy : Nat → ClassId) (E : Nat → Nat → Nat) (q : Nat) (w : va_W) : Prop := ∃ r1 : Nat, w = [(q, .inr (1, [.ref r1, vi 0, vi 0, vi 0])), (r1, .inl (cy 7, 16, .inl (fun _ => 0)))]
abbrev rm_X10_init : Room := { frames := 1, cells := 0, slots := 0, locals := 20 }
theorem mk_X10_init {Z : vZ} {l : Launch} {cy : Nat → ClassId} {E : Nat → Nat → Nat} {G : va_G} (zk : Zok Z) (zm : ZM Z) (zc : ZC Z E) (zs : ZS Z E) (q : Nat) : MkV Z l yX10_init cX10_init 1 rm_X10_init G (tyL cy) [.ref q] [(q, .inr (11, [vi 0, vi 0, vi 0, vi 0, vi 0, vi 0]))] (fun w => w = [(q, .inr (11, [vi 0, vi 0, vi 0, vi 0, vi 0, vi 0]))]) := by
  refine mkV_of (by decide +kernel) (Nat.le_of_ble_eq_true rfl) rfl (fun X A Q hZ hX hin C hend => ?_)
  refine J_aload_n (pc := 0) C dX10_init_0 rfl 0 rfl ?_
  refine E_obj (pc := 1) C ke_5 ke_0 ke_1 (Nat.le_of_ble_eq_true rfl) (by decide) (by decide) dX10_init_1 ?_
  refine J_aload_n (pc := 4) C dX10_init_4 rfl 0 rfl ?_
  refine J_iconst (pc := 5) C dX10_init_5 ?_
  refine E_put (pc := 6) C 0 11 0 6 (Cn := RX10) (Tn := TX10) (ty := .int) (w' := [(q, .inr (11, [vi 0, vi 0, vi 0, vi 0, vi 0, vi 0]))]) rfl rfl inX10 (by decide) tyX10 tyX10_ok nmX10 rfl (Nat.le_of_ble_eq_true rfl) ke_6 (by decide +kernel) rfl rfl dX10_init_6 rfl ?_
  refine J_aload_n (pc := 9) C dX10_init_9 rfl 0 rfl ?_
  refine J_iconst (pc := 10) C dX10_init_10 ?_
  refine E_put (pc := 11) C 0 11 1 6 (Cn := RX10) (Tn := TX10) (ty := .int) (w' := [(q, .inr (11, [vi 0, vi 0, vi 0, vi 0, vi 0, vi 0]))]) rfl rfl inX10 (by decide) tyX10 tyX10_ok nmX10 rfl (Nat.le_of_ble_eq_true rfl) ke_7 (by decide +kernel) rfl rfl dX10_init_11 rfl ?_
  refine J_aload_n (pc := 14) C dX10_init_14 rfl 0 rfl ?_
  refine J_iconst (pc := 15) C dX10_init_15 ?_
  refine E_put (pc := 16) C 0 11 2 6 (Cn := RX10) (Tn := TX10) (ty := .int) (w' := [(q, .inr (11, [vi 0, vi 0, vi 0, vi 0, vi 0, vi 0]))]) rfl rfl inX10 (by decide) tyX10 tyX10_ok nmX10 rfl (Nat.le_of_ble_eq_true rfl) ke_8 (by decide +kernel) rfl rfl dX10_init_16 rfl ?_
  refine J_aload_n (pc := 19) C dX10_init_19 rfl 0 rfl ?_
  refine J_iconst (pc := 20) C dX10_init_20 ?_
  refine E_put (pc := 21) C 0 11 3 6 (Cn := RX10) (Tn := TX10) (ty := .int) (w' := [(q, .inr (11, [vi 0, vi 0, vi 0, vi 0, vi 0, vi 0]))]) rfl rfl inX10 (by decide) tyX10 tyX10_ok nmX10 rfl (Nat.le_of_ble_eq_true rfl) ke_9 (by decide +kernel) rfl rfl dX10_init_21 rfl ?_
  refine J_aload_n (pc := 24) C dX10_init_24 rfl 0 rfl ?_
  refine J_iconst (pc := 25) C dX10_init_25 ?_
  refine E_put (pc := 26) C 0 11 4 6 (Cn := RX10) (Tn := TX10) (ty := .int) (w' := [(q, .inr (11, [vi 0, vi 0, vi 0, vi 0, vi 0, vi 0]))]) rfl rfl inX10 (by decide) tyX10 tyX10_ok nmX10 rfl (Nat.le_of_ble_eq_true rfl) ke_10 (by decide +kernel) rfl rfl dX10_init_26 rfl ?_
  refine J_aload_n (pc := 29) C dX10_init_29 rfl 0 rfl ?_
  refine J_iconst (pc := 30) C dX10_init_30 ?_
  refine E_put (pc := 31) C 0 11 5 6 (Cn := RX10) (Tn := TX10) (ty := .int) (w' := [(q, .inr (11, [vi 0, vi 0, vi 0, vi 0, vi 0, vi 0]))]) rfl rfl inX10 (by decide) tyX10 tyX10_ok nmX10 rfl (Nat.le_of_ble_eq_true rfl) ke_11 (by decide +kernel) rfl rfl dX10_init_31 rfl ?_
  exact hend 34 _ _ dX10_init_34 rfl
abbrev rm_X7_init : Room := { frames := 1, cells := 1, slots := 6, locals := 20 }
theorem mk_X7_init {Z : vZ} {l : Launch} {cy : Nat → ClassId} {E : Nat → Nat → Nat} {G : va_G} (zk : Zok Z) (zm : ZM Z) (zc : ZC Z E) (zs : ZS Z E) (q : Nat) : MkV Z l yX7_init cX7_init 1 rm_X7_init G (tyL cy) [.ref q] [(q, .inr (8, [vi 0, vi 0, vi 0, vi 0, vi 0, vi 0, vi 0, .null]))] (fun w => ∃ r1 : Nat, w = [(q, .inr (8, [vi 1, vi 0, vi 1, vi 0, vi 1, vi 0, vi 0, .ref r1])), (r1, .inl (cy 0, 6, .inl (fun _ => 0)))]) := by
  refine mkV_of (by decide +kernel) (Nat.le_of_ble_eq_true rfl) rfl (fun X A Q hZ hX hin C hend => ?_)
  refine J_aload_n (pc := 0) C dX7_init_0 rfl 0 rfl ?_
  refine E_obj (pc := 1) C ke_15 ke_0 ke_1 (Nat.le_of_ble_eq_true rfl) (by decide) (by decide) dX7_init_1 ?_
  refine J_aload_n (pc := 4) C dX7_init_4 rfl 0 rfl ?_
  refine J_iconst (pc := 5) C dX7_init_5 ?_
  refine E_put (pc := 6) C 0 8 0 8 (Cn := RX7) (Tn := TX7) (ty := .int) (w' := [(q, .inr (8, [vi 1, vi 0, vi 0, vi 0, vi 0, vi 0, vi 0, .null]))]) rfl rfl inX7 (by decide) tyX7 tyX7_ok nmX7 rfl (Nat.le_of_ble_eq_true rfl) ke_16 (by decide +kernel) rfl rfl dX7_init_6 rfl ?_
  refine J_aload_n (pc := 9) C dX7_init_9 rfl 0 rfl ?_
  refine J_iconst (pc := 10) C dX7_init_10 ?_
  refine E_put (pc := 11) C 0 8 1 8 (Cn := RX7) (Tn := TX7) (ty := .int) (w' := [(q, .inr (8, [vi 1, vi 0, vi 0, vi 0, vi 0, vi 0, vi 0, .null]))]) rfl rfl inX7 (by decide) tyX7 tyX7_ok nmX7 rfl (Nat.le_of_ble_eq_true rfl) ke_17 (by decide +kernel) rfl rfl dX7_init_11 rfl ?_
  refine J_aload_n (pc := 14) C dX7_init_14 rfl 0 rfl ?_
  refine J_iconst (pc := 15) C dX7_init_15 ?_
  refine E_put (pc := 16) C 0 8 2 8 (Cn := RX7) (Tn := TX7) (ty := .int) (w' := [(q, .inr (8, [vi 1, vi 0, vi 1, vi 0, vi 0, vi 0, vi 0, .null]))]) rfl rfl inX7 (by decide) tyX7 tyX7_ok nmX7 rfl (Nat.le_of_ble_eq_true rfl) ke_18 (by decide +kernel) rfl rfl dX7_init_16 rfl ?_
  refine J_aload_n (pc := 19) C dX7_init_19 rfl 0 rfl ?_
  refine J_iconst (pc := 20) C dX7_init_20 ?_
  refine E_put (pc := 21) C 0 8 3 8 (Cn := RX7) (Tn := TX7) (ty := .int) (w' := [(q, .inr (8, [vi 1, vi 0, vi 1, vi 0, vi 0, vi 0, vi 0, .null]))]) rfl rfl inX7 (by decide) tyX7 tyX7_ok nmX7 rfl (Nat.le_of_ble_eq_true rfl) ke_19 (by decide +kernel) rfl rfl dX7_init_21 rfl ?_
  refine J_aload_n (pc := 24) C dX7_init_24 rfl 0 rfl ?_
  refine J_iconst (pc := 25) C dX7_init_25 ?_
  refine E_put (pc := 26) C 0 8 4 8 (Cn := RX7) (Tn := TX7) (ty := .int) (w' := [(q, .inr (8, [vi 1, vi 0, vi 1, vi 0, vi 1, vi 0, vi 0, .null]))]) rfl rfl inX7 (by decide) tyX7 tyX7_ok nmX7 rfl (Nat.le_of_ble_eq_true rfl) ke_20 (by decide +kernel) rfl rfl dX7_init_26 rfl ?_
  refine J_aload_n (pc := 29) C dX7_init_29 rfl 0 rfl ?_
  refine J_iconst (pc := 30) C dX7_init_30 ?_
  refine E_put (pc := 31) C 0 8 5 8 (Cn := RX7) (Tn := TX7) (ty := .boolean) (w' := [(q, .inr (8, [vi 1, vi 0, vi 1, vi 0, vi 1, vi 0, vi 0, .null]))]) rfl rfl inX7 (by decide) tyX7 tyX7_ok nmX7 rfl (Nat.le_of_ble_eq_true rfl) ke_21 (by decide +kernel) rfl rfl dX7_init_31 rfl ?_
  refine J_aload_n (pc := 34) C dX7_init_34 rfl 0 rfl ?_
  refine J_iconst (pc := 35) C dX7_init_35 ?_
  refine E_put (pc := 36) C 0 8 6 8 (Cn := RX7) (Tn := TX7) (ty := .int) (w' := [(q, .inr (8, [vi 1, vi 0, vi 1, vi 0, vi 1, vi 0, vi 0, .null]))]) rfl rfl inX7 (by decide) tyX7 tyX7_ok nmX7 rfl (Nat.le_of_ble_eq_true rfl) ke_22 (by decide +kernel) rfl rfl dX7_init_36 rfl ?_
  refine J_aload_n (pc := 39) C dX7_init_39 rfl 0 rfl ?_
  refine J_bipush (pc := 40) C dX7_init_40 (by decide) ?_
  refine E_newa (pc := 42) C .int (ty := .int) rfl 6 rfl (by decide) 0 rfl (6, .inl (fun _ => 0)) (fun _ => rfl) ke_23 (by decide) (by decide) dX7_init_42 (fun r1 => ?_)
  refine E_putF (pc := 44) C hin 0 8 7 8 (Cn := RX7) (Tn := TX7) (ty := (.array .int)) (w' := [(q, .inr (8, [vi 1, vi 0, vi 1, vi 0, vi 1, vi 0, vi 0, .ref r1])), (r1, .inl (cy 0, 6, .inl (fun _ => 0)))]) rfl rfl inX7 (by decide) tyX7 tyX7_ok nmX7 rfl rfl (Nat.le_of_ble_eq_true rfl) ke_24 (by decide +kernel) rfl rfl dX7_init_44 rfl ?_
  exact hend 47 _ _ dX7_init_47 ⟨r1, rfl⟩
abbrev rm_X1_init : Room := { frames := 1, cells := 4, slots := 40, locals := 20 }
theorem mk_X1_init {Z : vZ} {l : Launch} {cy : Nat → ClassId} {E : Nat → Nat → Nat} {G : va_G} (zk : Zok Z) (zm : ZM Z) (zc : ZC Z E) (zs : ZS Z E) (q : Nat) : MkV Z l yX1_init cX1_init 1 rm_X1_init G (tyL cy) [.ref q] [(q, .inr (4, [.null, .null, .null, .null]))] (fun w => ∃ r1 r2 r3 r4 : Nat, w = [(q, .inr (4, [.ref r1, .ref r2, .ref r3, .ref r4])), (r1, .inl (cy 0, 10, .inl (fun _ => 0))), (r2, .inl (cy 0, 10, .inl (fun _ => 0))), (r3, .inl (cy 1, 10, .inl (fun _ => 0))), (r4, .inl (cy 1, 10, .inl (fun _ => 0)))]) := by
  refine mkV_of (by decide +kernel) (Nat.le_of_ble_eq_true rfl) rfl (fun X A Q hZ hX hin C hend => ?_)
  refine J_aload_n (pc := 0) C dX1_init_0 rfl 0 rfl ?_
  refine E_obj (pc := 1) C ke_28 ke_0 ke_1 (Nat.le_of_ble_eq_true rfl) (by decide) (by decide) dX1_init_1 ?_
  refine J_aload_n (pc := 4) C dX1_init_4 rfl 0 rfl ?_
  refine J_bipush (pc := 5) C dX1_init_5 (by decide) ?_
  refine E_newa (pc := 7) C .int (ty := .int) rfl 10 rfl (by decide) 0 rfl (10, .inl (fun _ => 0)) (fun _ => rfl) ke_23 (by decide) (by decide) dX1_init_7 (fun r1 => ?_)
  refine E_putF (pc := 9) C hin 0 4 0 4 (Cn := RX1) (Tn := TX1) (ty := (.array .int)) (w' := [(q, .inr (4, [.ref r1, .null, .null, .null])), (r1, .inl (cy 0, 10, .inl (fun _ => 0)))]) rfl rfl inX1 (by decide) tyX1 tyX1_ok nmX1 rfl rfl (Nat.le_of_ble_eq_true rfl) ke_29 (by decide +kernel) rfl rfl dX1_init_9 rfl ?_
  refine J_aload_n (pc := 12) C dX1_init_12 rfl 0 rfl ?_
  refine J_bipush (pc := 13) C dX1_init_13 (by decide) ?_
  refine E_newa (pc := 15) C .int (ty := .int) rfl 10 rfl (by decide) 0 rfl (10, .inl (fun _ => 0)) (fun _ => rfl) ke_23 (by decide) (by decide) dX1_init_15 (fun r2 => ?_)
  refine E_putF (pc := 17) C hin 0 4 1 4 (Cn := RX1) (Tn := TX1) (ty := (.array .int)) (w' := [(q, .inr (4, [.ref r1, .ref r2, .null, .null])), (r1, .inl (cy 0, 10, .inl (fun _ => 0))), (r2, .inl (cy 0, 10, .inl (fun _ => 0)))]) rfl rfl inX1 (by decide) tyX1 tyX1_ok nmX1 rfl rfl (Nat.le_of_ble_eq_true rfl) ke_30 (by decide +kernel) rfl rfl dX1_init_17 rfl ?_
  refine J_aload_n (pc := 20) C dX1_init_20 rfl 0 rfl ?_
  refine J_bipush (pc := 21) C dX1_init_21 (by decide) ?_
  refine E_newa (pc := 23) C .boolean (ty := .boolean) rfl 10 rfl (by decide) 1 rfl (10, .inl (fun _ => 0)) (fun _ => rfl) ke_31 (by decide) (by decide) dX1_init_23 (fun r3 => ?_)
  refine E_putF (pc := 25) C hin 0 4 2 4 (Cn := RX1) (Tn := TX1) (ty := (.array .boolean)) (w' := [(q, .inr (4, [.ref r1, .ref r2, .ref r3, .null])), (r1, .inl (cy 0, 10, .inl (fun _ => 0))), (r2, .inl (cy 0, 10, .inl (fun _ => 0))), (r3, .inl (cy 1, 10, .inl (fun _ => 0)))]) rfl rfl inX1 (by decide) tyX1 tyX1_ok nmX1 rfl rfl (Nat.le_of_ble_eq_true rfl) ke_32 (by decide +kernel) rfl rfl dX1_init_25 rfl ?_
  refine J_aload_n (pc := 28) C dX1_init_28 rfl 0 rfl ?_
  refine J_bipush (pc := 29) C dX1_init_29 (by decide) ?_
  refine E_newa (pc := 31) C .boolean (ty := .boolean) rfl 10 rfl (by decide) 1 rfl (10, .inl (fun _ => 0)) (fun _ => rfl) ke_31 (by decide) (by decide) dX1_init_31 (fun r4 => ?_)
  refine E_putF (pc := 33) C hin 0 4 3 4 (Cn := RX1) (Tn := TX1) (ty := (.array .boolean)) (w' := [(q, .inr (4, [.ref r1, .ref r2, .ref r3, .ref r4])), (r1, .inl (cy 0, 10, .inl (fun _ => 0))), (r2, .inl (cy 0, 10, .inl (fun _ => 0))), (r3, .inl (cy 1, 10, .inl (fun _ => 0))), (r4, .inl (cy 1, 10, .inl (fun _ => 0)))]) rfl rfl inX1 (by decide) tyX1 tyX1_ok nmX1 rfl rfl (Nat.le_of_ble_eq_true rfl) ke_33 (by decide +kernel) rfl rfl dX1_init_33 rfl ?_
  exact hend 36 _ _ dX1_init_36 ⟨r1, r2, r3, r4, rfl⟩
abbrev rm_X2_init : Room := { frames := 1, cells := 2, slots := 110, locals := 20 }
theorem mk_X2_init {Z : vZ} {l : Launch} {cy : Nat → ClassId} {E : Nat → Nat → Nat} {G : va_G} (zk : Zok Z) (zm : ZM Z) (zc : ZC Z E) (zs : ZS Z E) (q : Nat) : MkV Z l yX2_init cX2_init 1 rm_X2_init G (tyL cy) [.ref q] [(q, .inr (5, [.null, .null]))] (fun w => ∃ r1 r2 : Nat, w = [(q, .inr (5, [.ref r1, .ref r2])), (r1, .inl (cy 0, 10, .inl (fun _ => 0))), (r2, .inl (cy 0, 100, .inl (fun _ => 0)))]) := by
  refine mkV_of (by decide +kernel) (Nat.le_of_ble_eq_true rfl) rfl (fun X A Q hZ hX hin C hend => ?_)
  refine J_aload_n (pc := 0) C dX2_init_0 rfl 0 rfl ?_
  refine E_obj (pc := 1) C ke_37 ke_0 ke_1 (Nat.le_of_ble_eq_true rfl) (by decide) (by decide) dX2_init_1 ?_
  refine J_aload_n (pc := 4) C dX2_init_4 rfl 0 rfl ?_
  refine J_bipush (pc := 5) C dX2_init_5 (by decide) ?_
  refine E_newa (pc := 7) C .int (ty := .int) rfl 10 rfl (by decide) 0 rfl (10, .inl (fun _ => 0)) (fun _ => rfl) ke_23 (by decide) (by decide) dX2_init_7 (fun r1 => ?_)
  refine E_putF (pc := 9) C hin 0 5 0 2 (Cn := RX2) (Tn := TX2) (ty := (.array .int)) (w' := [(q, .inr (5, [.ref r1, .null])), (r1, .inl (cy 0, 10, .inl (fun _ => 0)))]) rfl rfl inX2 (by decide) tyX2 tyX2_ok nmX2 rfl rfl (Nat.le_of_ble_eq_true rfl) ke_38 (by decide +kernel) rfl rfl dX2_init_9 rfl ?_
  refine J_aload_n (pc := 12) C dX2_init_12 rfl 0 rfl ?_
  refine J_bipush (pc := 13) C dX2_init_13 (by decide) ?_
  refine E_newa (pc := 15) C .int (ty := .int) rfl 100 rfl (by decide) 0 rfl (100, .inl (fun _ => 0)) (fun _ => rfl) ke_23 (by decide) (by decide) dX2_init_15 (fun r2 => ?_)
  refine E_putF (pc := 17) C hin 0 5 1 2 (Cn := RX2) (Tn := TX2) (ty := (.array .int)) (w' := [(q, .inr (5, [.ref r1, .ref r2])), (r1, .inl (cy 0, 10, .inl (fun _ => 0))), (r2, .inl (cy 0, 100, .inl (fun _ => 0)))]) rfl rfl inX2 (by decide) tyX2 tyX2_ok nmX2 rfl rfl (Nat.le_of_ble_eq_true rfl) ke_39 (by decide +kernel) rfl rfl dX2_init_17 rfl ?_
  exact hend 20 _ _ dX2_init_20 ⟨r1, r2, rfl⟩
abbrev rm_X5_init : Room := { frames := 1, cells := 6, slots := 210, locals := 20 }
theorem mk_X5_init {Z : vZ} {l : Launch} {cy : Nat → ClassId} {E : Nat → Nat → Nat} {G : va_G} (zk : Zok Z) (zm : ZM Z) (zc : ZC Z E) (zs : ZS Z E) (q : Nat) : MkV Z l yX5_init cX5_init 1 rm_X5_init G (tyL cy) [.ref q] [(q, .inr (6, [.null, .null, .null, vi 0, .null, .null, .null]))] (fun w => ∃ r1 r2 r3 r4 r5 r6 : Nat, w = [(q, .inr (6, [.ref r1, .ref r2, .ref r3, vi 0, .ref r4, .ref r5, .ref r6])), (r1, .inl (cy 0, 100, .inl (fun _ => 0))), (r2, .inl (cy 0, 10, .inl (fun _ => 0))), (r3, .inl (cy 0, 10, .inl (fun _ => 0))), (r4, .inl (cy 0, 30, .inl (fun _ => 0))), (r5, .inl (cy 0, 30, .inl (fun _ => 0))), (r6, .inl (cy 0, 30, .inl (fun _ => 0)))]) := by
  refine mkV_of (by decide +kernel) (Nat.le_of_ble_eq_true rfl) rfl (fun X A Q hZ hX hin C hend => ?_)
  refine J_aload_n (pc := 0) C dX5_init_0 rfl 0 rfl ?_
  refine E_obj (pc := 1) C ke_43 ke_0 ke_1 (Nat.le_of_ble_eq_true rfl) (by decide) (by decide) dX5_init_1 ?_
  refine J_aload_n (pc := 4) C dX5_init_4 rfl 0 rfl ?_
  refine J_bipush (pc := 5) C dX5_init_5 (by decide) ?_
  refine E_newa (pc := 7) C .int (ty := .int) rfl 100 rfl (by decide) 0 rfl (100, .inl (fun _ => 0)) (fun _ => rfl) ke_23 (by decide) (by decide) dX5_init_7 (fun r1 => ?_)
  refine E_putF (pc := 9) C hin 0 6 0 7 (Cn := RX5) (Tn := TX5) (ty := (.array .int)) (w' := [(q, .inr (6, [.ref r1, .null, .null, vi 0, .null, .null, .null])), (r1, .inl (cy 0, 100, .inl (fun _ => 0)))]) rfl rfl inX5 (by decide) tyX5 tyX5_ok nmX5 rfl rfl (Nat.le_of_ble_eq_true rfl) ke_44 (by decide +kernel) rfl rfl dX5_init_9 rfl ?_
  refine J_aload_n (pc := 12) C dX5_init_12 rfl 0 rfl ?_
  refine J_bipush (pc := 13) C dX5_init_13 (by decide) ?_
  refine E_newa (pc := 15) C .int (ty := .int) rfl 10 rfl (by decide) 0 rfl (10, .inl (fun _ => 0)) (fun _ => rfl) ke_23 (by decide) (by decide) dX5_init_15 (fun r2 => ?_)
  refine E_putF (pc := 17) C hin 0 6 1 7 (Cn := RX5) (Tn := TX5) (ty := (.array .int)) (w' := [(q, .inr (6, [.ref r1, .ref r2, .null, vi 0, .null, .null, .null])), (r1, .inl (cy 0, 100, .inl (fun _ => 0))), (r2, .inl (cy 0, 10, .inl (fun _ => 0)))]) rfl rfl inX5 (by decide) tyX5 tyX5_ok nmX5 rfl rfl (Nat.le_of_ble_eq_true rfl) ke_45 (by decide +kernel) rfl rfl dX5_init_17 rfl ?_
  refine J_aload_n (pc := 20) C dX5_init_20 rfl 0 rfl ?_
  refine J_bipush (pc := 21) C dX5_init_21 (by decide) ?_
  refine E_newa (pc := 23) C .int (ty := .int) rfl 10 rfl (by decide) 0 rfl (10, .inl (fun _ => 0)) (fun _ => rfl) ke_23 (by decide) (by decide) dX5_init_23 (fun r3 => ?_)
  refine E_putF (pc := 25) C hin 0 6 2 7 (Cn := RX5) (Tn := TX5) (ty := (.array .int)) (w' := [(q, .inr (6, [.ref r1, .ref r2, .ref r3, vi 0, .null, .null, .null])), (r1, .inl (cy 0, 100, .inl (fun _ => 0))), (r2, .inl (cy 0, 10, .inl (fun _ => 0))), (r3, .inl (cy 0, 10, .inl (fun _ => 0)))]) rfl rfl inX5 (by decide) tyX5 tyX5_ok nmX5 rfl rfl (Nat.le_of_ble_eq_true rfl) ke_46 (by decide +kernel) rfl rfl dX5_init_25 rfl ?_
  refine J_aload_n (pc := 28) C dX5_init_28 rfl 0 rfl ?_
  refine J_iconst (pc := 29) C dX5_init_29 ?_
  refine E_put (pc := 30) C 0 6 3 7 (Cn := RX5) (Tn := TX5) (ty := .int) (w' := [(q, .inr (6, [.ref r1, .ref r2, .ref r3, vi 0, .null, .null, .null])), (r1, .inl (cy 0, 100, .inl (fun _ => 0))), (r2, .inl (cy 0, 10, .inl (fun _ => 0))), (r3, .inl (cy 0, 10, .inl (fun _ => 0)))]) rfl rfl inX5 (by decide) tyX5 tyX5_ok nmX5 rfl (Nat.le_of_ble_eq_true rfl) ke_47 (by decide +kernel) rfl rfl dX5_init_30 rfl ?_
  refine J_aload_n (pc := 33) C dX5_init_33 rfl 0 rfl ?_
  refine J_bipush (pc := 34) C dX5_init_34 (by decide) ?_
  refine E_newa (pc := 36) C .int (ty := .int) rfl 30 rfl (by decide) 0 rfl (30, .inl (fun _ => 0)) (fun _ => rfl) ke_23 (by decide) (by decide) dX5_init_36 (fun r4 => ?_)
  refine E_putF (pc := 38) C hin 0 6 4 7 (Cn := RX5) (Tn := TX5) (ty := (.array .int)) (w' := [(q, .inr (6, [.ref r1, .ref r2, .ref r3, vi 0, .ref r4, .null, .null])), (r1, .inl (cy 0, 100, .inl (fun _ => 0))), (r2, .inl (cy 0, 10, .inl (fun _ => 0))), (r3, .inl (cy 0, 10, .inl (fun _ => 0))), (r4, .inl (cy 0, 30, .inl (fun _ => 0)))]) rfl rfl inX5 (by decide) tyX5 tyX5_ok nmX5 rfl rfl (Nat.le_of_ble_eq_true rfl) ke_48 (by decide +kernel) rfl rfl dX5_init_38 rfl ?_
  refine J_aload_n (pc := 41) C dX5_init_41 rfl 0 rfl ?_
  refine J_bipush (pc := 42) C dX5_init_42 (by decide) ?_
  refine E_newa (pc := 44) C .int (ty := .int) rfl 30 rfl (by decide) 0 rfl (30, .inl (fun _ => 0)) (fun _ => rfl) ke_23 (by decide) (by decide) dX5_init_44 (fun r5 => ?_)
  refine E_putF (pc := 46) C hin 0 6 5 7 (Cn := RX5) (Tn := TX5) (ty := (.array .int)) (w' := [(q, .inr (6, [.ref r1, .ref r2, .ref r3, vi 0, .ref r4, .ref r5, .null])), (r1, .inl (cy 0, 100, .inl (fun _ => 0))), (r2, .inl (cy 0, 10, .inl (fun _ => 0))), (r3, .inl (cy 0, 10, .inl (fun _ => 0))), (r4, .inl (cy 0, 30, .inl (fun _ => 0))), (r5, .inl (cy 0, 30, .inl (fun _ => 0)))]) rfl rfl inX5 (by decide) tyX5 tyX5_ok nmX5 rfl rfl (Nat.le_of_ble_eq_true rfl) ke_49 (by decide +kernel) rfl rfl dX5_init_46 rfl ?_
  refine J_aload_n (pc := 49) C dX5_init_49 rfl 0 rfl ?_
  refine J_bipush (pc := 50) C dX5_init_50 (by decide) ?_
  refine E_newa (pc := 52) C .int (ty := .int) rfl 30 rfl (by decide) 0 rfl (30, .inl (fun _ => 0)) (fun _ => rfl) ke_23 (by decide) (by decide) dX5_init_52 (fun r6 => ?_)
  refine E_putF (pc := 54) C hin 0 6 6 7 (Cn := RX5) (Tn := TX5) (ty := (.array .int)) (w' := [(q, .inr (6, [.ref r1, .ref r2, .ref r3, vi 0, .ref r4, .ref r5, .ref r6])), (r1, .inl (cy 0, 100, .inl (fun _ => 0))), (r2, .inl (cy 0, 10, .inl (fun _ => 0))), (r3, .inl (cy 0, 10, .inl (fun _ => 0))), (r4, .inl (cy 0, 30, .inl (fun _ => 0))), (r5, .inl (cy 0, 30, .inl (fun _ => 0))), (r6, .inl (cy 0, 30, .inl (fun _ => 0)))]) rfl rfl inX5 (by decide) tyX5 tyX5_ok nmX5 rfl rfl (Nat.le_of_ble_eq_true rfl) ke_50 (by decide +kernel) rfl rfl dX5_init_54 rfl ?_
  exact hend 57 _ _ dX5_init_57 ⟨r1, r2, r3, r4, r5, r6, rfl⟩
abbrev rm_X13_init : Room := { frames := 1, cells := 10, slots := 4060, locals := 20 }
theorem mk_X13_init {Z : vZ} {l : Launch} {cy : Nat → ClassId} {E : Nat → Nat → Nat} {G : va_G} (zk : Zok Z) (zm : ZM Z) (zc : ZC Z E) (zs : ZS Z E) (q : Nat) : MkV Z l yX13_init cX13_init 1 rm_X13_init G (tyL cy) [.ref q] [(q, .inr (14, [.null, .null, .null, .null, .null, .null, vi 0, vi 0, vi 0, vi 0, vi 0, .null, vi 0, .null, .null, .null, vi 0, vi 0, vi 0, vi 0, vi 0]))] (fun w => ∃ r1 r2 r3 r4 r5 r6 r7 r8 r9 r10 : Nat, w = [(q, .inr (14, [.ref r1, .ref r2, .ref r3, .ref r4, .ref r5, .ref r6, vi 0, vi 0, vi (-1), vi (-1), vi 0, .ref r7, vi 0, .ref r8, .ref r9, .ref r10, vi 0, vi 0, vi 0, vi 0, vi 0])), (r1, .inl (cy 0, 340, .inl (fun _ => 0))), (r2, .inl (cy 0, 340, .inl (fun _ => 0))), (r3, .inl (cy 0, 340, .inl (fun _ => 0))), (r4, .inl (cy 0, 2720, .inl (fun _ => 0))), (r5, .inl (cy 0, 10, .inl (fun _ => 0))), (r6, .inl (cy 0, 10, .inl (fun _ => 0))), (r7, .inl (cy 0, 80, .inl (fun _ => 0))), (r8, .inl (cy 0, 60, .inl (fun _ => 0))), (r9, .inl (cy 0, 32, .inl (fun _ => 0))), (r10, .inl (cy 0, 128, .inl (fun _ => 0)))]) := by
  refine mkV_of (by decide +kernel) (Nat.le_of_ble_eq_true rfl) rfl (fun X A Q hZ hX hin C hend => ?_)
  refine J_aload_n (pc := 0) C dX13_init_0 rfl 0 rfl ?_
  refine E_obj (pc := 1) C ke_54 ke_0 ke_1 (Nat.le_of_ble_eq_true rfl) (by decide) (by decide) dX13_init_1 ?_
  refine J_aload_n (pc := 4) C dX13_init_4 rfl 0 rfl ?_
  refine J_sipush (pc := 5) C dX13_init_5 (by decide) ?_
  refine E_newa (pc := 8) C .int (ty := .int) rfl 340 rfl (by decide) 0 rfl (340, .inl (fun _ => 0)) (fun _ => rfl) ke_23 (by decide) (by decide) dX13_init_8 (fun r1 => ?_)
  refine E_putF (pc := 10) C hin 0 14 0 21 (Cn := RX13) (Tn := TX13) (ty := (.array .int)) (w' := [(q, .inr (14, [.ref r1, .null, .null, .null, .null, .null, vi 0, vi 0, vi 0, vi 0, vi 0, .null, vi 0, .null, .null, .null, vi 0, vi 0, vi 0, vi 0, vi 0])), (r1, .inl (cy 0, 340, .inl (fun _ => 0)))]) rfl rfl inX13 (by decide) tyX13 tyX13_ok nmX13 rfl rfl (Nat.le_of_ble_eq_true rfl) ke_55 (by decide +kernel) rfl rfl dX13_init_10 rfl ?_
  refine J_aload_n (pc := 13) C dX13_init_13 rfl 0 rfl ?_
  refine J_sipush (pc := 14) C dX13_init_14 (by decide) ?_
  refine E_newa (pc := 17) C .int (ty := .int) rfl 340 rfl (by decide) 0 rfl (340, .inl (fun _ => 0)) (fun _ => rfl) ke_23 (by decide) (by decide) dX13_init_17 (fun r2 => ?_)
  refine E_putF (pc := 19) C hin 0 14 1 21 (Cn := RX13) (Tn := TX13) (ty := (.array .int)) (w' := [(q, .inr (14, [.ref r1, .ref r2, .null, .null, .null, .null, vi 0, vi 0, vi 0, vi 0, vi 0, .null, vi 0, .null, .null, .null, vi 0, vi 0, vi 0, vi 0, vi 0])), (r1, .inl (cy 0, 340, .inl (fun _ => 0))), (r2, .inl (cy 0, 340, .inl (fun _ => 0)))]) rfl rfl inX13 (by decide) tyX13 tyX13_ok nmX13 rfl rfl (Nat.le_of_ble_eq_true rfl) ke_56 (by decide +kernel) rfl rfl dX13_init_19 rfl ?_
  refine J_aload_n (pc := 22) C dX13_init_22 rfl 0 rfl ?_
  refine J_sipush (pc := 23) C dX13_init_23 (by decide) ?_
  refine E_newa (pc := 26) C .int (ty := .int) rfl 340 rfl (by decide) 0 rfl (340, .inl (fun _ => 0)) (fun _ => rfl) ke_23 (by decide) (by decide) dX13_init_26 (fun r3 => ?_)
  refine E_putF (pc := 28) C hin 0 14 2 21 (Cn := RX13) (Tn := TX13) (ty := (.array .int)) (w' := [(q, .inr (14, [.ref r1, .ref r2, .ref r3, .null, .null, .null, vi 0, vi 0, vi 0, vi 0, vi 0, .null, vi 0, .null, .null, .null, vi 0, vi 0, vi 0, vi 0, vi 0])), (r1, .inl (cy 0, 340, .inl (fun _ => 0))), (r2, .inl (cy 0, 340, .inl (fun _ => 0))), (r3, .inl (cy 0, 340, .inl (fun _ => 0)))]) rfl rfl inX13 (by decide) tyX13 tyX13_ok nmX13 rfl rfl (Nat.le_of_ble_eq_true rfl) ke_57 (by decide +kernel) rfl rfl dX13_init_28 rfl ?_
  refine J_aload_n (pc := 31) C dX13_init_31 rfl 0 rfl ?_
  refine J_sipush (pc := 32) C dX13_init_32 (by decide) ?_
  refine E_newa (pc := 35) C .int (ty := .int) rfl 2720 rfl (by decide) 0 rfl (2720, .inl (fun _ => 0)) (fun _ => rfl) ke_23 (by decide) (by decide) dX13_init_35 (fun r4 => ?_)
  refine E_putF (pc := 37) C hin 0 14 3 21 (Cn := RX13) (Tn := TX13) (ty := (.array .int)) (w' := [(q, .inr (14, [.ref r1, .ref r2, .ref r3, .ref r4, .null, .null, vi 0, vi 0, vi 0, vi 0, vi 0, .null, vi 0, .null, .null, .null, vi 0, vi 0, vi 0, vi 0, vi 0])), (r1, .inl (cy 0, 340, .inl (fun _ => 0))), (r2, .inl (cy 0, 340, .inl (fun _ => 0))), (r3, .inl (cy 0, 340, .inl (fun _ => 0))), (r4, .inl (cy 0, 2720, .inl (fun _ => 0)))]) rfl rfl inX13 (by decide) tyX13 tyX13_ok nmX13 rfl rfl (Nat.le_of_ble_eq_true rfl) ke_58 (by decide +kernel) rfl rfl dX13_init_37 rfl ?_
  refine J_aload_n (pc := 40) C dX13_init_40 rfl 0 rfl ?_
  refine J_bipush (pc := 41) C dX13_init_41 (by decide) ?_
  refine E_newa (pc := 43) C .int (ty := .int) rfl 10 rfl (by decide) 0 rfl (10, .inl (fun _ => 0)) (fun _ => rfl) ke_23 (by decide) (by decide) dX13_init_43 (fun r5 => ?_)
  refine E_putF (pc := 45) C hin 0 14 4 21 (Cn := RX13) (Tn := TX13) (ty := (.array .int)) (w' := [(q, .inr (14, [.ref r1, .ref r2, .ref r3, .ref r4, .ref r5, .null, vi 0, vi 0, vi 0, vi 0, vi 0, .null, vi 0, .null, .null, .null, vi 0, vi 0, vi 0, vi 0, vi 0])), (r1, .inl (cy 0, 340, .inl (fun _ => 0))), (r2, .inl (cy 0, 340, .inl (fun _ => 0))), (r3, .inl (cy 0, 340, .inl (fun _ => 0))), (r4, .inl (cy 0, 2720, .inl (fun _ => 0))), (r5, .inl (cy 0, 10, .inl (fun _ => 0)))]) rfl rfl inX13 (by decide) tyX13 tyX13_ok nmX13 rfl rfl (Nat.le_of_ble_eq_true rfl) ke_59 (by decide +kernel) rfl rfl dX13_init_45 rfl ?_
  refine J_aload_n (pc := 48) C dX13_init_48 rfl 0 rfl ?_
  refine J_bipush (pc := 49) C dX13_init_49 (by decide) ?_
  refine E_newa (pc := 51) C .int (ty := .int) rfl 10 rfl (by decide) 0 rfl (10, .inl (fun _ => 0)) (fun _ => rfl) ke_23 (by decide) (by decide) dX13_init_51 (fun r6 => ?_)
  refine E_putF (pc := 53) C hin 0 14 5 21 (Cn := RX13) (Tn := TX13) (ty := (.array .int)) (w' := [(q, .inr (14, [.ref r1, .ref r2, .ref r3, .ref r4, .ref r5, .ref r6, vi 0, vi 0, vi 0, vi 0, vi 0, .null, vi 0, .null, .null, .null, vi 0, vi 0, vi 0, vi 0, vi 0])), (r1, .inl (cy 0, 340, .inl (fun _ => 0))), (r2, .inl (cy 0, 340, .inl (fun _ => 0))), (r3, .inl (cy 0, 340, .inl (fun _ => 0))), (r4, .inl (cy 0, 2720, .inl (fun _ => 0))), (r5, .inl (cy 0, 10, .inl (fun _ => 0))), (r6, .inl (cy 0, 10, .inl (fun _ => 0)))]) rfl rfl inX13 (by decide) tyX13 tyX13_ok nmX13 rfl rfl (Nat.le_of_ble_eq_true rfl) ke_60 (by decide +kernel) rfl rfl dX13_init_53 rfl ?_
  refine J_aload_n (pc := 56) C dX13_init_56 rfl 0 rfl ?_
  refine J_iconst (pc := 57) C dX13_init_57 ?_
  refine E_put (pc := 58) C 0 14 6 21 (Cn := RX13) (Tn := TX13) (ty := .int) (w' := [(q, .inr (14, [.ref r1, .ref r2, .ref r3, .ref r4, .ref r5, .ref r6, vi 0, vi 0, vi 0, vi 0, vi 0, .null, vi 0, .null, .null, .null, vi 0, vi 0, vi 0, vi 0, vi 0])), (r1, .inl (cy 0, 340, .inl (fun _ => 0))), (r2, .inl (cy 0, 340, .inl (fun _ => 0))), (r3, .inl (cy 0, 340, .inl (fun _ => 0))), (r4, .inl (cy 0, 2720, .inl (fun _ => 0))), (r5, .inl (cy 0, 10, .inl (fun _ => 0))), (r6, .inl (cy 0, 10, .inl (fun _ => 0)))]) rfl rfl inX13 (by decide) tyX13 tyX13_ok nmX13 rfl (Nat.le_of_ble_eq_true rfl) ke_61 (by decide +kernel) rfl rfl dX13_init_58 rfl ?_
  refine J_aload_n (pc := 61) C dX13_init_61 rfl 0 rfl ?_
  refine J_iconst (pc := 62) C dX13_init_62 ?_
  refine E_put (pc := 63) C 0 14 7 21 (Cn := RX13) (Tn := TX13) (ty := .int) (w' := [(q, .inr (14, [.ref r1, .ref r2, .ref r3, .ref r4, .ref r5, .ref r6, vi 0, vi 0, vi 0, vi 0, vi 0, .null, vi 0, .null, .null, .null, vi 0, vi 0, vi 0, vi 0, vi 0])), (r1, .inl (cy 0, 340, .inl (fun _ => 0))), (r2, .inl (cy 0, 340, .inl (fun _ => 0))), (r3, .inl (cy 0, 340, .inl (fun _ => 0))), (r4, .inl (cy 0, 2720, .inl (fun _ => 0))), (r5, .inl (cy 0, 10, .inl (fun _ => 0))), (r6, .inl (cy 0, 10, .inl (fun _ => 0)))]) rfl rfl inX13 (by decide) tyX13 tyX13_ok nmX13 rfl (Nat.le_of_ble_eq_true rfl) ke_62 (by decide +kernel) rfl rfl dX13_init_63 rfl ?_
  refine J_aload_n (pc := 66) C dX13_init_66 rfl 0 rfl ?_
  refine J_iconst (pc := 67) C dX13_init_67 ?_
  refine E_put (pc := 68) C 0 14 8 21 (Cn := RX13) (Tn := TX13) (ty := .int) (w' := [(q, .inr (14, [.ref r1, .ref r2, .ref r3, .ref r4, .ref r5, .ref r6, vi 0, vi 0, vi (-1), vi 0, vi 0, .null, vi 0, .null, .null, .null, vi 0, vi 0, vi 0, vi 0, vi 0])), (r1, .inl (cy 0, 340, .inl (fun _ => 0))), (r2, .inl (cy 0, 340, .inl (fun _ => 0))), (r3, .inl (cy 0, 340, .inl (fun _ => 0))), (r4, .inl (cy 0, 2720, .inl (fun _ => 0))), (r5, .inl (cy 0, 10, .inl (fun _ => 0))), (r6, .inl (cy 0, 10, .inl (fun _ => 0)))]) rfl rfl inX13 (by decide) tyX13 tyX13_ok nmX13 rfl (Nat.le_of_ble_eq_true rfl) ke_63 (by decide +kernel) rfl rfl dX13_init_68 rfl ?_
  refine J_aload_n (pc := 71) C dX13_init_71 rfl 0 rfl ?_
  refine J_iconst (pc := 72) C dX13_init_72 ?_
  refine E_put (pc := 73) C 0 14 9 21 (Cn := RX13) (Tn := TX13) (ty := .int) (w' := [(q, .inr (14, [.ref r1, .ref r2, .ref r3, .ref r4, .ref r5, .ref r6, vi 0, vi 0, vi (-1), vi (-1), vi 0, .null, vi 0, .null, .null, .null, vi 0, vi 0, vi 0, vi 0, vi 0])), (r1, .inl (cy 0, 340, .inl (fun _ => 0))), (r2, .inl (cy 0, 340, .inl (fun _ => 0))), (r3, .inl (cy 0, 340, .inl (fun _ => 0))), (r4, .inl (cy 0, 2720, .inl (fun _ => 0))), (r5, .inl (cy 0, 10, .inl (fun _ => 0))), (r6, .inl (cy 0, 10, .inl (fun _ => 0)))]) rfl rfl inX13 (by decide) tyX13 tyX13_ok nmX13 rfl (Nat.le_of_ble_eq_true rfl) ke_64 (by decide +kernel) rfl rfl dX13_init_73 rfl ?_
  refine J_aload_n (pc := 76) C dX13_init_76 rfl 0 rfl ?_
  refine J_iconst (pc := 77) C dX13_init_77 ?_
  refine E_put (pc := 78) C 0 14 10 21 (Cn := RX13) (Tn := TX13) (ty := .boolean) (w' := [(q, .inr (14, [.ref r1, .ref r2, .ref r3, .ref r4, .ref r5, .ref r6, vi 0, vi 0, vi (-1), vi (-1), vi 0, .null, vi 0, .null, .null, .null, vi 0, vi 0, vi 0, vi 0, vi 0])), (r1, .inl (cy 0, 340, .inl (fun _ => 0))), (r2, .inl (cy 0, 340, .inl (fun _ => 0))), (r3, .inl (cy 0, 340, .inl (fun _ => 0))), (r4, .inl (cy 0, 2720, .inl (fun _ => 0))), (r5, .inl (cy 0, 10, .inl (fun _ => 0))), (r6, .inl (cy 0, 10, .inl (fun _ => 0)))]) rfl rfl inX13 (by decide) tyX13 tyX13_ok nmX13 rfl (Nat.le_of_ble_eq_true rfl) ke_65 (by decide +kernel) rfl rfl dX13_init_78 rfl ?_
  refine J_aload_n (pc := 81) C dX13_init_81 rfl 0 rfl ?_
  refine J_bipush (pc := 82) C dX13_init_82 (by decide) ?_
  refine E_newa (pc := 84) C .int (ty := .int) rfl 80 rfl (by decide) 0 rfl (80, .inl (fun _ => 0)) (fun _ => rfl) ke_23 (by decide) (by decide) dX13_init_84 (fun r7 => ?_)
  refine E_putF (pc := 86) C hin 0 14 11 21 (Cn := RX13) (Tn := TX13) (ty := (.array .int)) (w' := [(q, .inr (14, [.ref r1, .ref r2, .ref r3, .ref r4, .ref r5, .ref r6, vi 0, vi 0, vi (-1), vi (-1), vi 0, .ref r7, vi 0, .null, .null, .null, vi 0, vi 0, vi 0, vi 0, vi 0])), (r1, .inl (cy 0, 340, .inl (fun _ => 0))), (r2, .inl (cy 0, 340, .inl (fun _ => 0))), (r3, .inl (cy 0, 340, .inl (fun _ => 0))), (r4, .inl (cy 0, 2720, .inl (fun _ => 0))), (r5, .inl (cy 0, 10, .inl (fun _ => 0))), (r6, .inl (cy 0, 10, .inl (fun _ => 0))), (r7, .inl (cy 0, 80, .inl (fun _ => 0)))]) rfl rfl inX13 (by decide) tyX13 tyX13_ok nmX13 rfl rfl (Nat.le_of_ble_eq_true rfl) ke_66 (by decide +kernel) rfl rfl dX13_init_86 rfl ?_
  refine J_aload_n (pc := 89) C dX13_init_89 rfl 0 rfl ?_
  refine J_iconst (pc := 90) C dX13_init_90 ?_
  refine E_put (pc := 91) C 0 14 12 21 (Cn := RX13) (Tn := TX13) (ty := .int) (w' := [(q, .inr (14, [.ref r1, .ref r2, .ref r3, .ref r4, .ref r5, .ref r6, vi 0, vi 0, vi (-1), vi (-1), vi 0, .ref r7, vi 0, .null, .null, .null, vi 0, vi 0, vi 0, vi 0, vi 0])), (r1, .inl (cy 0, 340, .inl (fun _ => 0))), (r2, .inl (cy 0, 340, .inl (fun _ => 0))), (r3, .inl (cy 0, 340, .inl (fun _ => 0))), (r4, .inl (cy 0, 2720, .inl (fun _ => 0))), (r5, .inl (cy 0, 10, .inl (fun _ => 0))), (r6, .inl (cy 0, 10, .inl (fun _ => 0))), (r7, .inl (cy 0, 80, .inl (fun _ => 0)))]) rfl rfl inX13 (by decide) tyX13 tyX13_ok nmX13 rfl (Nat.le_of_ble_eq_true rfl) ke_67 (by decide +kernel) rfl rfl dX13_init_91 rfl ?_
  refine J_aload_n (pc := 94) C dX13_init_94 rfl 0 rfl ?_
  refine J_bipush (pc := 95) C dX13_init_95 (by decide) ?_
  refine E_newa (pc := 97) C .int (ty := .int) rfl 60 rfl (by decide) 0 rfl (60, .inl (fun _ => 0)) (fun _ => rfl) ke_23 (by decide) (by decide) dX13_init_97 (fun r8 => ?_)
  refine E_putF (pc := 99) C hin 0 14 13 21 (Cn := RX13) (Tn := TX13) (ty := (.array .int)) (w' := [(q, .inr (14, [.ref r1, .ref r2, .ref r3, .ref r4, .ref r5, .ref r6, vi 0, vi 0, vi (-1), vi (-1), vi 0, .ref r7, vi 0, .ref r8, .null, .null, vi 0, vi 0, vi 0, vi 0, vi 0])), (r1, .inl (cy 0, 340, .inl (fun _ => 0))), (r2, .inl (cy 0, 340, .inl (fun _ => 0))), (r3, .inl (cy 0, 340, .inl (fun _ => 0))), (r4, .inl (cy 0, 2720, .inl (fun _ => 0))), (r5, .inl (cy 0, 10, .inl (fun _ => 0))), (r6, .inl (cy 0, 10, .inl (fun _ => 0))), (r7, .inl (cy 0, 80, .inl (fun _ => 0))), (r8, .inl (cy 0, 60, .inl (fun _ => 0)))]) rfl rfl inX13 (by decide) tyX13 tyX13_ok nmX13 rfl rfl (Nat.le_of_ble_eq_true rfl) ke_68 (by decide +kernel) rfl rfl dX13_init_99 rfl ?_
  refine J_aload_n (pc := 102) C dX13_init_102 rfl 0 rfl ?_
  refine J_bipush (pc := 103) C dX13_init_103 (by decide) ?_
  refine E_newa (pc := 105) C .int (ty := .int) rfl 32 rfl (by decide) 0 rfl (32, .inl (fun _ => 0)) (fun _ => rfl) ke_23 (by decide) (by decide) dX13_init_105 (fun r9 => ?_)
  refine E_putF (pc := 107) C hin 0 14 14 21 (Cn := RX13) (Tn := TX13) (ty := (.array .int)) (w' := [(q, .inr (14, [.ref r1, .ref r2, .ref r3, .ref r4, .ref r5, .ref r6, vi 0, vi 0, vi (-1), vi (-1), vi 0, .ref r7, vi 0, .ref r8, .ref r9, .null, vi 0, vi 0, vi 0, vi 0, vi 0])), (r1, .inl (cy 0, 340, .inl (fun _ => 0))), (r2, .inl (cy 0, 340, .inl (fun _ => 0))), (r3, .inl (cy 0, 340, .inl (fun _ => 0))), (r4, .inl (cy 0, 2720, .inl (fun _ => 0))), (r5, .inl (cy 0, 10, .inl (fun _ => 0))), (r6, .inl (cy 0, 10, .inl (fun _ => 0))), (r7, .inl (cy 0, 80, .inl (fun _ => 0))), (r8, .inl (cy 0, 60, .inl (fun _ => 0))), (r9, .inl (cy 0, 32, .inl (fun _ => 0)))]) rfl rfl inX13 (by decide) tyX13 tyX13_ok nmX13 rfl rfl (Nat.le_of_ble_eq_true rfl) ke_69 (by decide +kernel) rfl rfl dX13_init_107 rfl ?_
  refine J_aload_n (pc := 110) C dX13_init_110 rfl 0 rfl ?_
  refine J_sipush (pc := 111) C dX13_init_111 (by decide) ?_
  refine E_newa (pc := 114) C .int (ty := .int) rfl 128 rfl (by decide) 0 rfl (128, .inl (fun _ => 0)) (fun _ => rfl) ke_23 (by decide) (by decide) dX13_init_114 (fun r10 => ?_)
  refine E_putF (pc := 116) C hin 0 14 15 21 (Cn := RX13) (Tn := TX13) (ty := (.array .int)) (w' := [(q, .inr (14, [.ref r1, .ref r2, .ref r3, .ref r4, .ref r5, .ref r6, vi 0, vi 0, vi (-1), vi (-1), vi 0, .ref r7, vi 0, .ref r8, .ref r9, .ref r10, vi 0, vi 0, vi 0, vi 0, vi 0])), (r1, .inl (cy 0, 340, .inl (fun _ => 0))), (r2, .inl (cy 0, 340, .inl (fun _ => 0))), (r3, .inl (cy 0, 340, .inl (fun _ => 0))), (r4, .inl (cy 0, 2720, .inl (fun _ => 0))), (r5, .inl (cy 0, 10, .inl (fun _ => 0))), (r6, .inl (cy 0, 10, .inl (fun _ => 0))), (r7, .inl (cy 0, 80, .inl (fun _ => 0))), (r8, .inl (cy 0, 60, .inl (fun _ => 0))), (r9, .inl (cy 0, 32, .inl (fun _ => 0))), (r10, .inl (cy 0, 128, .inl (fun _ => 0)))]) rfl rfl inX13 (by decide) tyX13 tyX13_ok nmX13 rfl rfl (Nat.le_of_ble_eq_true rfl) ke_70 (by decide +kernel) rfl rfl dX13_init_116 rfl ?_
  refine J_aload_n (pc := 119) C dX13_init_119 rfl 0 rfl ?_
  refine J_iconst (pc := 120) C dX13_init_120 ?_
  refine E_put (pc := 121) C 0 14 16 21 (Cn := RX13) (Tn := TX13) (ty := .int) (w' := [(q, .inr (14, [.ref r1, .ref r2, .ref r3, .ref r4, .ref r5, .ref r6, vi 0, vi 0, vi (-1), vi (-1), vi 0, .ref r7, vi 0, .ref r8, .ref r9, .ref r10, vi 0, vi 0, vi 0, vi 0, vi 0])), (r1, .inl (cy 0, 340, .inl (fun _ => 0))), (r2, .inl (cy 0, 340, .inl (fun _ => 0))), (r3, .inl (cy 0, 340, .inl (fun _ => 0))), (r4, .inl (cy 0, 2720, .inl (fun _ => 0))), (r5, .inl (cy 0, 10, .inl (fun _ => 0))), (r6, .inl (cy 0, 10, .inl (fun _ => 0))), (r7, .inl (cy 0, 80, .inl (fun _ => 0))), (r8, .inl (cy 0, 60, .inl (fun _ => 0))), (r9, .inl (cy 0, 32, .inl (fun _ => 0))), (r10, .inl (cy 0, 128, .inl (fun _ => 0)))]) rfl rfl inX13 (by decide) tyX13 tyX13_ok nmX13 rfl (Nat.le_of_ble_eq_true rfl) ke_71 (by decide +kernel) rfl rfl dX13_init_121 rfl ?_
  refine J_aload_n (pc := 124) C dX13_init_124 rfl 0 rfl ?_
  refine J_iconst (pc := 125) C dX13_init_125 ?_
  refine E_put (pc := 126) C 0 14 17 21 (Cn := RX13) (Tn := TX13) (ty := .int) (w' := [(q, .inr (14, [.ref r1, .ref r2, .ref r3, .ref r4, .ref r5, .ref r6, vi 0, vi 0, vi (-1), vi (-1), vi 0, .ref r7, vi 0, .ref r8, .ref r9, .ref r10, vi 0, vi 0, vi 0, vi 0, vi 0])), (r1, .inl (cy 0, 340, .inl (fun _ => 0))), (r2, .inl (cy 0, 340, .inl (fun _ => 0))), (r3, .inl (cy 0, 340, .inl (fun _ => 0))), (r4, .inl (cy 0, 2720, .inl (fun _ => 0))), (r5, .inl (cy 0, 10, .inl (fun _ => 0))), (r6, .inl (cy 0, 10, .inl (fun _ => 0))), (r7, .inl (cy 0, 80, .inl (fun _ => 0))), (r8, .inl (cy 0, 60, .inl (fun _ => 0))), (r9, .inl (cy 0, 32, .inl (fun _ => 0))), (r10, .inl (cy 0, 128, .inl (fun _ => 0)))]) rfl rfl inX13 (by decide) tyX13 tyX13_ok nmX13 rfl (Nat.le_of_ble_eq_true rfl) ke_72 (by decide +kernel) rfl rfl dX13_init_126 rfl ?_
  refine J_aload_n (pc := 129) C dX13_init_129 rfl 0 rfl ?_
  refine J_iconst (pc := 130) C dX13_init_130 ?_
  refine E_put (pc := 131) C 0 14 18 21 (Cn := RX13) (Tn := TX13) (ty := .int) (w' := [(q, .inr (14, [.ref r1, .ref r2, .ref r3, .ref r4, .ref r5, .ref r6, vi 0, vi 0, vi (-1), vi (-1), vi 0, .ref r7, vi 0, .ref r8, .ref r9, .ref r10, vi 0, vi 0, vi 0, vi 0, vi 0])), (r1, .inl (cy 0, 340, .inl (fun _ => 0))), (r2, .inl (cy 0, 340, .inl (fun _ => 0))), (r3, .inl (cy 0, 340, .inl (fun _ => 0))), (r4, .inl (cy 0, 2720, .inl (fun _ => 0))), (r5, .inl (cy 0, 10, .inl (fun _ => 0))), (r6, .inl (cy 0, 10, .inl (fun _ => 0))), (r7, .inl (cy 0, 80, .inl (fun _ => 0))), (r8, .inl (cy 0, 60, .inl (fun _ => 0))), (r9, .inl (cy 0, 32, .inl (fun _ => 0))), (r10, .inl (cy 0, 128, .inl (fun _ => 0)))]) rfl rfl inX13 (by decide) tyX13 tyX13_ok nmX13 rfl (Nat.le_of_ble_eq_true rfl) ke_73 (by decide +kernel) rfl rfl dX13_init_131 rfl ?_
  refine J_aload_n (pc := 134) C dX13_init_134 rfl 0 rfl ?_
  refine J_iconst (pc := 135) C dX13_init_135 ?_
  refine E_put (pc := 136) C 0 14 19 21 (Cn := RX13) (Tn := TX13) (ty := .int) (w' := [(q, .inr (14, [.ref r1, .ref r2, .ref r3, .ref r4, .ref r5, .ref r6, vi 0, vi 0, vi (-1), vi (-1), vi 0, .ref r7, vi 0, .ref r8, .ref r9, .ref r10, vi 0, vi 0, vi 0, vi 0, vi 0])), (r1, .inl (cy 0, 340, .inl (fun _ => 0))), (r2, .inl (cy 0, 340, .inl (fun _ => 0))), (r3, .inl (cy 0, 340, .inl (fun _ => 0))), (r4, .inl (cy 0, 2720, .inl (fun _ => 0))), (r5, .inl (cy 0, 10, .inl (fun _ => 0))), (r6, .inl (cy 0, 10, .inl (fun _ => 0))), (r7, .inl (cy 0, 80, .inl (fun _ => 0))), (r8, .inl (cy 0, 60, .inl (fun _ => 0))), (r9, .inl (cy 0, 32, .inl (fun _ => 0))), (r10, .inl (cy 0, 128, .inl (fun _ => 0)))]) rfl rfl inX13 (by decide) tyX13 tyX13_ok nmX13 rfl (Nat.le_of_ble_eq_true rfl) ke_74 (by decide +kernel) rfl rfl dX13_init_136 rfl ?_
  refine J_aload_n (pc := 139) C dX13_init_139 rfl 0 rfl ?_
  refine J_iconst (pc := 140) C dX13_init_140 ?_
  refine E_put (pc := 141) C 0 14 20 21 (Cn := RX13) (Tn := TX13) (ty := .boolean) (w' := [(q, .inr (14, [.ref r1, .ref r2, .ref r3, .ref r4, .ref r5, .ref r6, vi 0, vi 0, vi (-1), vi (-1), vi 0, .ref r7, vi 0, .ref r8, .ref r9, .ref r10, vi 0, vi 0, vi 0, vi 0, vi 0])), (r1, .inl (cy 0, 340, .inl (fun _ => 0))), (r2, .inl (cy 0, 340, .inl (fun _ => 0))), (r3, .inl (cy 0, 340, .inl (fun _ => 0))), (r4, .inl (cy 0, 2720, .inl (fun _ => 0))), (r5, .inl (cy 0, 10, .inl (fun _ => 0))), (r6, .inl (cy 0, 10, .inl (fun _ => 0))), (r7, .inl (cy 0, 80, .inl (fun _ => 0))), (r8, .inl (cy 0, 60, .inl (fun _ => 0))), (r9, .inl (cy 0, 32, .inl (fun _ => 0))), (r10, .inl (cy 0, 128, .inl (fun _ => 0)))]) rfl rfl inX13 (by decide) tyX13 tyX13_ok nmX13 rfl (Nat.le_of_ble_eq_true rfl) ke_75 (by decide +kernel) rfl rfl dX13_init_141 rfl ?_
  exact hend 144 _ _ dX13_init_144 ⟨r1, r2, r3, r4, r5, r6, r7, r8, r9, r10, rfl⟩
abbrev rm_J5_init_d00df : Room := { frames := 1, cells := 1, slots := 16, locals := 20 }
theorem mk_J5_init_d00df {Z : vZ} {l : Launch} {cy : Nat → ClassId} {E : Nat → Nat → Nat} {G : va_G} (zk : Zok Z) (zm : ZM Z) (zc : ZC Z E) (zs : ZS Z E) (q : Nat) : MkV Z l yJ5_init_d00df cJ5_init_d00df 2 rm_J5_init_d00df G (tyL cy) [.ref q, vi 16] [(q, .inr (1, [.null, vi 0, vi 0, vi 0]))] (fun w => ∃ r1 : Nat, w = [(q, .inr (1, [.ref r1, vi 0, vi 0, vi 0])), (r1, .inl (cy 7, 16, .inl (fun _ => 0)))]) := by
  refine mkV_of (by decide +kernel) (Nat.le_of_ble_eq_true rfl) rfl (fun X A Q hZ hX hin C hend => ?_)
  refine J_aload_n (pc := 0) C dJ5_init_d00df_0 rfl 0 rfl ?_
  refine E_obj (pc := 1) C ke_79 ke_0 ke_1 (Nat.le_of_ble_eq_true rfl) (by decide) (by decide) dJ5_init_d00df_1 ?_
  refine E_cs (pc := 4) zs hZ C ke_80 dJ5_init_d00df_4 ?_
  refine J_if_eq (pc := 7) C 25 dJ5_init_d00df_7 rfl ⟨by decide, by decide⟩ (fun c0 => absurd c0 (by decide)) (fun _ => ?_)
  refine J_aload_n (pc := 10) C dJ5_init_d00df_10 rfl 0 rfl ?_
  refine J_iload_n (pc := 11) C dJ5_init_d00df_11 rfl 1 rfl ?_
  refine E_newa (pc := 12) C .byte (ty := .byte) rfl 16 rfl (by decide) 7 rfl (16, .inl (fun _ => 0)) (fun _ => rfl) ke_81 (by decide) (by decide) dJ5_init_d00df_12 (fun r1 => ?_)
  refine E_put (pc := 14) C 0 1 0 4 (Cn := RJ4) (Tn := TJ4) (ty := (.array .byte)) (w' := [(q, .inr (1, [.ref r1, vi 0, vi 0, vi 0])), (r1, .inl (cy 7, 16, .inl (fun _ => 0)))]) rfl rfl inJ4 (by decide) tyJ4 tyJ4_ok nmJ4 rfl (Nat.le_of_ble_eq_true rfl) ke_82 (by decide +kernel) rfl rfl dJ5_init_d00df_14 rfl ?_
  refine J_aload_n (pc := 17) C dJ5_init_d00df_17 rfl 0 rfl ?_
  refine J_iconst (pc := 18) C dJ5_init_d00df_18 ?_
  refine E_put (pc := 19) C 0 1 1 4 (Cn := RJ4) (Tn := TJ4) (ty := .byte) (w' := [(q, .inr (1, [.ref r1, vi 0, vi 0, vi 0])), (r1, .inl (cy 7, 16, .inl (fun _ => 0)))]) rfl rfl inJ4 (by decide) tyJ4 tyJ4_ok nmJ4 rfl (Nat.le_of_ble_eq_true rfl) ke_83 (by decide +kernel) rfl rfl dJ5_init_d00df_19 rfl ?_
  refine J_goto (pc := 22) C 38 dJ5_init_d00df_22 rfl ?_
  exact hend 38 _ _ dJ5_init_d00df_38 ⟨r1, rfl⟩
abbrev rm_J4_init_da8c8 : Room := { frames := 2, cells := 1, slots := 16, locals := 41 }
theorem mk_J4_init_da8c8 {Z : vZ} {l : Launch} {cy : Nat → ClassId} {E : Nat → Nat → Nat} {G : va_G} (zk : Zok Z) (zm : ZM Z) (zc : ZC Z E) (zs : ZS Z E) (q : Nat) : MkV Z l yJ4_init_da8c8 cJ4_init_da8c8 1 rm_J4_init_da8c8 G (tyL cy) [.ref q] [(q, .inr (1, [.null, vi 0, vi 0, vi 0]))] (fun w => ∃ r1 : Nat, w = [(q, .inr (1, [.ref r1, vi 0, vi 0, vi 0])), (r1, .inl (cy 7, 16, .inl (fun _ => 0)))]) := by
  refine mkV_of (by decide +kernel) (Nat.le_of_ble_eq_true rfl) rfl (fun X A Q hZ hX hin C hend => ?_)
  refine J_aload_n (pc := 0) C dJ4_init_da8c8_0 rfl 0 rfl ?_
  refine J_bipush (pc := 1) C dJ4_init_da8c8_1 (by decide) ?_
  refine E_call (pc := 3) (w := []) zk hZ C [vi 16] [] (mk_J5_init_d00df zk zm zc zs q) ke_87 ki_J5_init_d00df rfl rfl (Nat.le_of_ble_eq_true rfl) ⟨⟨by decide, by decide⟩, by decide, by decide⟩ dJ4_init_da8c8_3 (fun w1 hw1 => ?_)
  exact hend 6 _ _ dJ4_init_da8c8_6 hw1
abbrev rm_X11_init : Room := { frames := 2, cells := 17, slots := 112, locals := 40 }
theorem mk_X11_init {Z : vZ} {l : Launch} {cy : Nat → ClassId} {E : Nat → Nat → Nat} {G : va_G} (zk : Zok Z) (zm : ZM Z) (zc : ZC Z E) (zs : ZS Z E) (q : Nat) : MkV Z l yX11_init cX11_init 2 rm_X11_init G (tyL cy) [.ref q] [(q, .inr (12, [.null, vi 0, vi 0, vi 0, vi 0, vi 0]))] (fun w => ∃ (r1 : Nat) (as : List Nat), as.length = 16 ∧ w = w11 cy q r1 as) := by
  refine mkV_of (by decide +kernel) (Nat.le_of_ble_eq_true rfl) rfl (fun X A Q hZ hX hin C hend => ?_)
  refine J_aload_n (pc := 0) C dX11_init_0 rfl 0 rfl ?_
  refine E_obj (pc := 1) C ke_91 ke_0 ke_1 (Nat.le_of_ble_eq_true rfl) (by decide) (by decide) dX11_init_1 ?_
  refine J_aload_n (pc := 4) C dX11_init_4 rfl 0 rfl ?_
  refine J_bipush (pc := 5) C dX11_init_5 (by decide) ?_
  refine E_newq (pc := 7) zm hZ C "RingTransit$Ticket" (by decide) 16 rfl (by decide) 4 rfl ke_92 (by decide) dX11_init_7 (fun r1 => ?_)
  refine E_putF (pc := 10) C hin 0 12 0 6 (Cn := RX11) (Tn := TX11) (ty := (.array (.object "RingTransit$Ticket"))) (w' := [(q, .inr (12, [.ref r1, vi 0, vi 0, vi 0, vi 0, vi 0])), (r1, .inl (cy 4, 16, .inr (.inr (.inr (.inr (fun _ => none))))))]) rfl rfl inX11 (by decide) tyX11 tyX11_ok nmX11 rfl rfl (Nat.le_of_ble_eq_true rfl) ke_93 (by decide +kernel) rfl rfl dX11_init_10 rfl ?_
  refine J_aload_n (pc := 13) C dX11_init_13 rfl 0 rfl ?_
  refine J_iconst (pc := 14) C dX11_init_14 ?_
  refine E_put (pc := 15) C 0 12 1 6 (Cn := RX11) (Tn := TX11) (ty := .int) (w' := [(q, .inr (12, [.ref r1, vi 0, vi 0, vi 0, vi 0, vi 0])), (r1, .inl (cy 4, 16, .inr (.inr (.inr (.inr (fun _ => none))))))]) rfl rfl inX11 (by decide) tyX11 tyX11_ok nmX11 rfl (Nat.le_of_ble_eq_true rfl) ke_94 (by decide +kernel) rfl rfl dX11_init_15 rfl ?_
  refine J_aload_n (pc := 18) C dX11_init_18 rfl 0 rfl ?_
  refine J_iconst (pc := 19) C dX11_init_19 ?_
  refine E_put (pc := 20) C 0 12 2 6 (Cn := RX11) (Tn := TX11) (ty := .int) (w' := [(q, .inr (12, [.ref r1, vi 0, vi 0, vi 0, vi 0, vi 0])), (r1, .inl (cy 4, 16, .inr (.inr (.inr (.inr (fun _ => none))))))]) rfl rfl inX11 (by decide) tyX11 tyX11_ok nmX11 rfl (Nat.le_of_ble_eq_true rfl) ke_95 (by decide +kernel) rfl rfl dX11_init_20 rfl ?_
  refine J_aload_n (pc := 23) C dX11_init_23 rfl 0 rfl ?_
  refine J_iconst (pc := 24) C dX11_init_24 ?_
  refine E_put (pc := 25) C 0 12 3 6 (Cn := RX11) (Tn := TX11) (ty := .int) (w' := [(q, .inr (12, [.ref r1, vi 0, vi 0, vi 0, vi 0, vi 0])), (r1, .inl (cy 4, 16, .inr (.inr (.inr (.inr (fun _ => none))))))]) rfl rfl inX11 (by decide) tyX11 tyX11_ok nmX11 rfl (Nat.le_of_ble_eq_true rfl) ke_96 (by decide +kernel) rfl rfl dX11_init_25 rfl ?_
  refine J_aload_n (pc := 28) C dX11_init_28 rfl 0 rfl ?_
  refine J_iconst (pc := 29) C dX11_init_29 ?_
  refine E_put (pc := 30) C 0 12 4 6 (Cn := RX11) (Tn := TX11) (ty := .int) (w' := [(q, .inr (12, [.ref r1, vi 0, vi 0, vi 0, vi 0, vi 0])), (r1, .inl (cy 4, 16, .inr (.inr (.inr (.inr (fun _ => none))))))]) rfl rfl inX11 (by decide) tyX11 tyX11_ok nmX11 rfl (Nat.le_of_ble_eq_true rfl) ke_97 (by decide +kernel) rfl rfl dX11_init_30 rfl ?_
  refine J_aload_n (pc := 33) C dX11_init_33 rfl 0 rfl ?_
  refine J_iconst (pc := 34) C dX11_init_34 ?_
  refine E_put (pc := 35) C 0 12 5 6 (Cn := RX11) (Tn := TX11) (ty := .int) (w' := [(q, .inr (12, [.ref r1, vi 0, vi 0, vi 0, vi 0, vi 0])), (r1, .inl (cy 4, 16, .inr (.inr (.inr (.inr (fun _ => none))))))]) rfl rfl inX11 (by decide) tyX11 tyX11_ok nmX11 rfl (Nat.le_of_ble_eq_true rfl) ke_98 (by decide +kernel) rfl rfl dX11_init_35 rfl ?_
  refine J_iconst (pc := 38) C dX11_init_38 ?_
  refine J_istore_n (pc := 39) (L' := [(1, vi 0), (0, .ref q)]) C dX11_init_39 rfl (Nat.le_of_ble_eq_true rfl) rfl ?_
  have loop : ∀ (m : Nat) (as : List Nat), as.length + m = 16 → J X (YE G A 2 Q) (1 + 1 * as.length) (16 + 6 * as.length) 40 [(1, vi (as.length : Int)), (0, .ref q)] [] (w11 cy q r1 as) := by
    intro m
    induction m with
    | zero =>
      intro as h
      refine J_iload_n (pc := 40) C dX11_init_40 rfl 0 rfl ?_
      refine J_bipush (pc := 41) C dX11_init_41 (by decide) ?_
      refine J_icmp_ge (pc := 43) C 65 dX11_init_43 rfl (rng_s (by omega)) ⟨by decide, by decide⟩ (fun c => ?_) (fun c => ?_)
      · refine J_wid (by show _ ≤ 17; omega) (by show _ ≤ 112; omega) (hend 65 _ _ dX11_init_65 ⟨r1, as, by omega, rfl⟩)
      · exact absurd h (by omega)
    | succ m ih =>
      intro as h
      refine J_iload_n (pc := 40) C dX11_init_40 rfl 0 rfl ?_
      refine J_bipush (pc := 41) C dX11_init_41 (by decide) ?_
      refine J_icmp_ge (pc := 43) C 65 dX11_init_43 rfl (rng_s (by omega)) ⟨by decide, by decide⟩ (fun c => ?_) (fun c => ?_)
      · exact absurd h (by omega)
      · refine J_aload_n (pc := 46) C dX11_init_46 rfl 1 rfl ?_
        refine E_get (pc := 47) C 0 12 0 6 (Cn := RX11) (Tn := TX11) (v := .ref r1) rfl rfl inX11 (by decide) ke_93 rfl dX11_init_47 ?_
        refine J_iload_n (pc := 50) C dX11_init_50 rfl 0 rfl ?_
        refine E_new (pc := 51) C 11 6 (Cn := RX10) (Tn := TX10) [vi 0, vi 0, vi 0, vi 0, vi 0, vi 0] rfl inX10 tyX10 tyX10_ok ke_99 ke_100 ke_3 (fun j hj => match j, hj with | 0, _ => rfl | 1, _ => rfl | 2, _ => rfl | 3, _ => rfl | 4, _ => rfl | 5, _ => rfl | n + 6, h => absurd h (by omega)) ⟨by show _ ≤ 17; omega, by show _ ≤ 112; omega⟩ dX11_init_51 (fun o1 => ?_)
        refine J_dup (pc := 54) C dX11_init_54 rfl ?_
        refine E_callN (pc := 55) (w := w11 cy q r1 as) zk zm hZ C [.ref o1, vi (as.length : Int), .ref r1] (mk_X10_init zk zm zc zs o1) "RingTransit" (by decide +kernel) ki_X10_init (Nat.le_of_ble_eq_true rfl) ⟨⟨by decide, by decide⟩, by show _ + 0 ≤ 17; omega, by show _ + 0 ≤ 112; omega⟩ dX11_init_55 (fun w1 hw1 => ?_)
        subst hw1
        refine E_astq (pc := 58) C as.length rfl 1 4 (w11 cy q r1 as).length 11 (cA := cy 4) (r := ("RingTransit$Ticket", TX10, 6)) (n := 16) (f := fun j => (as[j]?).map id) (w' := w11 cy q r1 (as ++ [o1])) rfl rfl (get_app _ _ _) rfl (by omega) (by decide) dX11_init_58 ?_ ?_
        · show (q, _) :: (r1, _) :: (as.map tkE ++ [tkE o1]) = _
          rw [va_up_app id as o1 o1 rfl]
          unfold w11
          rw [List.map_append]; rfl
        refine J_iinc (pc := 59) (L' := [(1, vi ((as.length : Int) + 1)), (0, .ref q)]) C dX11_init_59 (Nat.le_of_ble_eq_true rfl) 0 rfl rfl ?_
        refine J_goto (pc := 62) C 40 dX11_init_62 rfl ?_
        have h9 := ih (as ++ [o1]) (by rw [List.length_append, List.length_singleton]; omega)
        rw [List.length_append, List.length_singleton] at h9
        exact J_cast (by show _ + 1 + 0 = _; omega) (by show _ + 6 + 0 = _; omega) (by rw [Int.natCast_add]; rfl) rfl h9
  exact J_cast rfl rfl rfl (by unfold w11; simp) (loop 16 [] rfl)

abbrev rm_X8_init : Room := { frames := 3, cells := 32, slots := 313, locals := 61 }
theorem mk_X8_init {Z : vZ} {l : Launch} {cy : Nat → ClassId} {E : Nat → Nat → Nat} {G : va_G} (zk : Zok Z) (zm : ZM Z) (zc : ZC Z E) (zs : ZS Z E) (q : Nat) : MkV Z l yX8_init cX8_init 2 rm_X8_init G (tyL cy) [.ref q] [(q, .inr (9, [vi 0, vi 0, vi 0, .null, .null, vi 0, .null, vi 0, .null, .null]))] (fun w => ∃ d : ND, d.1 = q ∧ g8 d ∧ w = w8 cy d) := by
  refine mkV_of (by decide +kernel) (Nat.le_of_ble_eq_true rfl) rfl (fun X A Q hZ hX hin C hend => ?_)
  refine J_aload_n (pc := 0) C dX8_init_0 rfl 0 rfl ?_
  refine E_obj (pc := 1) C ke_104 ke_0 ke_1 (Nat.le_of_ble_eq_true rfl) (by decide) (by decide) dX8_init_1 ?_
  refine J_aload_n (pc := 4) C dX8_init_4 rfl 0 rfl ?_
  refine J_iconst (pc := 5) C dX8_init_5 ?_
  refine E_put (pc := 6) C 0 9 0 10 (Cn := RX8) (Tn := TX8) (ty := .int) (w' := [(q, .inr (9, [vi 0, vi 0, vi 0, .null, .null, vi 0, .null, vi 0, .null, .null]))]) rfl rfl inX8 (by decide) tyX8 tyX8_ok nmX8 rfl (Nat.le_of_ble_eq_true rfl) ke_105 (by decide +kernel) rfl rfl dX8_init_6 rfl ?_
  refine J_aload_n (pc := 9) C dX8_init_9 rfl 0 rfl ?_
  refine J_iconst (pc := 10) C dX8_init_10 ?_
  refine E_put (pc := 11) C 0 9 1 10 (Cn := RX8) (Tn := TX8) (ty := .boolean) (w' := [(q, .inr (9, [vi 0, vi 0, vi 0, .null, .null, vi 0, .null, vi 0, .null, .null]))]) rfl rfl inX8 (by decide) tyX8 tyX8_ok nmX8 rfl (Nat.le_of_ble_eq_true rfl) ke_106 (by decide +kernel) rfl rfl dX8_init_11 rfl ?_
  refine J_aload_n (pc := 14) C dX8_init_14 rfl 0 rfl ?_
  refine J_iconst (pc := 15) C dX8_init_15 ?_
  refine E_put (pc := 16) C 0 9 2 10 (Cn := RX8) (Tn := TX8) (ty := .int) (w' := [(q, .inr (9, [vi 0, vi 0, vi 0, .null, .null, vi 0, .null, vi 0, .null, .null]))]) rfl rfl inX8 (by decide) tyX8 tyX8_ok nmX8 rfl (Nat.le_of_ble_eq_true rfl) ke_107 (by decide +kernel) rfl rfl dX8_init_16 rfl ?_
  refine J_aload_n (pc := 19) C dX8_init_19 rfl 0 rfl ?_
  refine J_bipush (pc := 20) C dX8_init_20 (by decide) ?_
  refine E_newa (pc := 22) C .int (ty := .int) rfl 10 rfl (by decide) 0 rfl (10, .inl (fun _ => 0)) (fun _ => rfl) ke_23 (by decide) (by decide) dX8_init_22 (fun r1 => ?_)
  refine E_putF (pc := 24) C hin 0 9 3 10 (Cn := RX8) (Tn := TX8) (ty := (.array .int)) (w' := [(q, .inr (9, [vi 0, vi 0, vi 0, .ref r1, .null, vi 0, .null, vi 0, .null, .null])), (r1, .inl (cy 0, 10, .inl (fun _ => 0)))]) rfl rfl inX8 (by decide) tyX8 tyX8_ok nmX8 rfl rfl (Nat.le_of_ble_eq_true rfl) ke_108 (by decide +kernel) rfl rfl dX8_init_24 rfl ?_
  refine J_aload_n (pc := 27) C dX8_init_27 rfl 0 rfl ?_
  refine J_bipush (pc := 28) C dX8_init_28 (by decide) ?_
  refine E_newa (pc := 30) C .boolean (ty := .boolean) rfl 10 rfl (by decide) 1 rfl (10, .inl (fun _ => 0)) (fun _ => rfl) ke_31 (by decide) (by decide) dX8_init_30 (fun r2 => ?_)
  refine E_putF (pc := 32) C hin 0 9 4 10 (Cn := RX8) (Tn := TX8) (ty := (.array .boolean)) (w' := [(q, .inr (9, [vi 0, vi 0, vi 0, .ref r1, .ref r2, vi 0, .null, vi 0, .null, .null])), (r1, .inl (cy 0, 10, .inl (fun _ => 0))), (r2, .inl (cy 1, 10, .inl (fun _ => 0)))]) rfl rfl inX8 (by decide) tyX8 tyX8_ok nmX8 rfl rfl (Nat.le_of_ble_eq_true rfl) ke_109 (by decide +kernel) rfl rfl dX8_init_32 rfl ?_
  refine J_aload_n (pc := 35) C dX8_init_35 rfl 0 rfl ?_
  refine J_iconst (pc := 36) C dX8_init_36 ?_
  refine E_put (pc := 37) C 0 9 5 10 (Cn := RX8) (Tn := TX8) (ty := .int) (w' := [(q, .inr (9, [vi 0, vi 0, vi 0, .ref r1, .ref r2, vi 0, .null, vi 0, .null, .null])), (r1, .inl (cy 0, 10, .inl (fun _ => 0))), (r2, .inl (cy 1, 10, .inl (fun _ => 0)))]) rfl rfl inX8 (by decide) tyX8 tyX8_ok nmX8 rfl (Nat.le_of_ble_eq_true rfl) ke_110 (by decide +kernel) rfl rfl dX8_init_37 rfl ?_
  refine J_aload_n (pc := 40) C dX8_init_40 rfl 0 rfl ?_
  refine J_bipush (pc := 41) C dX8_init_41 (by decide) ?_
  refine E_newa (pc := 43) C .int (ty := .int) rfl 100 rfl (by decide) 0 rfl (100, .inl (fun _ => 0)) (fun _ => rfl) ke_23 (by decide) (by decide) dX8_init_43 (fun r3 => ?_)
  refine E_putF (pc := 45) C hin 0 9 6 10 (Cn := RX8) (Tn := TX8) (ty := (.array .int)) (w' := [(q, .inr (9, [vi 0, vi 0, vi 0, .ref r1, .ref r2, vi 0, .ref r3, vi 0, .null, .null])), (r1, .inl (cy 0, 10, .inl (fun _ => 0))), (r2, .inl (cy 1, 10, .inl (fun _ => 0))), (r3, .inl (cy 0, 100, .inl (fun _ => 0)))]) rfl rfl inX8 (by decide) tyX8 tyX8_ok nmX8 rfl rfl (Nat.le_of_ble_eq_true rfl) ke_111 (by decide +kernel) rfl rfl dX8_init_45 rfl ?_
  refine J_aload_n (pc := 48) C dX8_init_48 rfl 0 rfl ?_
  refine J_iconst (pc := 49) C dX8_init_49 ?_
  refine E_put (pc := 50) C 0 9 7 10 (Cn := RX8) (Tn := TX8) (ty := .int) (w' := [(q, .inr (9, [vi 0, vi 0, vi 0, .ref r1, .ref r2, vi 0, .ref r3, vi 0, .null, .null])), (r1, .inl (cy 0, 10, .inl (fun _ => 0))), (r2, .inl (cy 1, 10, .inl (fun _ => 0))), (r3, .inl (cy 0, 100, .inl (fun _ => 0)))]) rfl rfl inX8 (by decide) tyX8 tyX8_ok nmX8 rfl (Nat.le_of_ble_eq_true rfl) ke_112 (by decide +kernel) rfl rfl dX8_init_50 rfl ?_
  refine J_aload_n (pc := 53) C dX8_init_53 rfl 0 rfl ?_
  refine J_iconst (pc := 54) C dX8_init_54 ?_
  refine E_newq (pc := 55) zm hZ C "RingTransit$Line" (by decide) 5 rfl (by decide) 3 rfl ke_113 (by decide) dX8_init_55 (fun r4 => ?_)
  refine E_putF (pc := 58) C hin 0 9 8 10 (Cn := RX8) (Tn := TX8) (ty := (.array (.object "RingTransit$Line"))) (w' := [(q, .inr (9, [vi 0, vi 0, vi 0, .ref r1, .ref r2, vi 0, .ref r3, vi 0, .ref r4, .null])), (r1, .inl (cy 0, 10, .inl (fun _ => 0))), (r2, .inl (cy 1, 10, .inl (fun _ => 0))), (r3, .inl (cy 0, 100, .inl (fun _ => 0))), (r4, .inl (cy 3, 5, .inr (.inr (.inr (.inr (fun _ => none))))))]) rfl rfl inX8 (by decide) tyX8 tyX8_ok nmX8 rfl rfl (Nat.le_of_ble_eq_true rfl) ke_114 (by decide +kernel) rfl rfl dX8_init_58 rfl ?_
  refine J_aload_n (pc := 61) C dX8_init_61 rfl 0 rfl ?_
  refine E_new (pc := 62) C 12 6 (Cn := RX11) (Tn := TX11) [.null, vi 0, vi 0, vi 0, vi 0, vi 0] rfl inX11 tyX11 tyX11_ok ke_115 ke_116 ke_89 (fun j hj => match j, hj with | 0, _ => rfl | 1, _ => rfl | 2, _ => rfl | 3, _ => rfl | 4, _ => rfl | 5, _ => rfl | n + 6, h => absurd h (by omega)) (by decide) dX8_init_62 (fun o1 => ?_)
  refine J_dup (pc := 65) C dX8_init_65 rfl ?_
  refine E_call (pc := 66) (w := [(q, .inr (9, [vi 0, vi 0, vi 0, .ref r1, .ref r2, vi 0, .ref r3, vi 0, .ref r4, .null])), (r1, .inl (cy 0, 10, .inl (fun _ => 0))), (r2, .inl (cy 1, 10, .inl (fun _ => 0))), (r3, .inl (cy 0, 100, .inl (fun _ => 0))), (r4, .inl (cy 3, 5, .inr (.inr (.inr (.inr (fun _ => none))))))]) zk hZ C [] [.ref o1, .ref q] (mk_X11_init zk zm zc zs o1) ke_117 ki_X11_init rfl rfl (Nat.le_of_ble_eq_true rfl) ⟨⟨by decide, by decide⟩, by decide, by decide⟩ dX8_init_66 (fun w1 hw1 => ?_)
  obtain ⟨r5, as, has, rfl⟩ := hw1
  refine E_putF (pc := 69) C hin 0 9 9 10 (Cn := RX8) (Tn := TX8) (ty := (.object "RingTransit$Tickets")) (w' := (q, .inr (9, [vi 0, vi 0, vi 0, .ref r1, .ref r2, vi 0, .ref r3, vi 0, .ref r4, .ref o1])) :: (r1, .inl (cy 0, 10, .inl (fun _ => 0))) :: (r2, .inl (cy 1, 10, .inl (fun _ => 0))) :: (r3, .inl (cy 0, 100, .inl (fun _ => 0))) :: (r4, .inl (cy 3, 5, .inr (.inr (.inr (.inr (fun _ => none)))))) :: w11 cy o1 r5 as) rfl rfl inX8 (by decide) tyX8 tyX8_ok nmX8 rfl rfl (Nat.le_of_ble_eq_true rfl) ke_118 (by decide +kernel) rfl rfl dX8_init_69 rfl ?_
  refine J_iconst (pc := 72) C dX8_init_72 ?_
  refine J_istore_n (pc := 73) (L' := [(1, vi 0), (0, .ref q)]) C dX8_init_73 rfl (Nat.le_of_ble_eq_true rfl) rfl ?_
  have loop : ∀ (m : Nat) (ls : List (Nat × Nat)), ls.length + m = 5 → J X (YE G A 2 Q) (22 + 2 * ls.length) (243 + 14 * ls.length) 74 [(1, vi (ls.length : Int)), (0, .ref q)] [] (w8 cy (q, r1, r2, r3, r4, o1, r5, as, ls)) := by
    intro m
    induction m with
    | zero =>
      intro ls h
      refine J_iload_n (pc := 74) C dX8_init_74 rfl 0 rfl ?_
      refine J_iconst (pc := 75) C dX8_init_75 ?_
      refine J_icmp_ge (pc := 76) C 98 dX8_init_76 rfl (rng_s (by omega)) ⟨by decide, by decide⟩ (fun c => ?_) (fun c => ?_)
      · refine J_wid (by show _ ≤ 32; omega) (by show _ ≤ 313; omega) (hend 98 _ _ dX8_init_98 ⟨(q, r1, r2, r3, r4, o1, r5, as, ls), rfl, ⟨has, by show ls.length = 5; omega⟩, rfl⟩)
      · exact absurd h (by omega)
    | succ m ih =>
      intro ls h
      refine J_iload_n (pc := 74) C dX8_init_74 rfl 0 rfl ?_
      refine J_iconst (pc := 75) C dX8_init_75 ?_
      refine J_icmp_ge (pc := 76) C 98 dX8_init_76 rfl (rng_s (by omega)) ⟨by decide, by decide⟩ (fun c => ?_) (fun c => ?_)
      · exact absurd h (by omega)
      · refine J_aload_n (pc := 79) C dX8_init_79 rfl 1 rfl ?_
        refine E_get (pc := 80) C 0 9 8 10 (Cn := RX8) (Tn := TX8) (v := .ref r4) rfl rfl inX8 (by decide) ke_114 rfl dX8_init_80 ?_
        refine J_iload_n (pc := 83) C dX8_init_83 rfl 0 rfl ?_
        refine E_new (pc := 84) C 8 8 (Cn := RX7) (Tn := TX7) [vi 0, vi 0, vi 0, vi 0, vi 0, vi 0, vi 0, .null] rfl inX7 tyX7 tyX7_ok ke_119 ke_120 ke_13 (fun j hj => match j, hj with | 0, _ => rfl | 1, _ => rfl | 2, _ => rfl | 3, _ => rfl | 4, _ => rfl | 5, _ => rfl | 6, _ => rfl | 7, _ => rfl | n + 8, h => absurd h (by omega)) ⟨by show _ ≤ 32; omega, by show _ ≤ 313; omega⟩ dX8_init_84 (fun o2 => ?_)
        refine J_dup (pc := 87) C dX8_init_87 rfl ?_
        refine E_callN (pc := 88) (w := w8 cy (q, r1, r2, r3, r4, o1, r5, as, ls)) zk zm hZ C [.ref o2, vi (ls.length : Int), .ref r4] (mk_X7_init zk zm zc zs o2) "RingTransit" (by decide +kernel) ki_X7_init (Nat.le_of_ble_eq_true rfl) ⟨⟨by decide, by decide⟩, by show _ + 1 ≤ 32; omega, by show _ + 6 ≤ 313; omega⟩ dX8_init_88 (fun w1 hw1 => ?_)
        obtain ⟨r, rfl⟩ := hw1
        refine E_astq (pc := 91) C ls.length rfl 4 3 (w8 cy (q, r1, r2, r3, r4, o1, r5, as, ls)).length 8 (cA := cy 3) (r := ("RingTransit$Line", TX7, 8)) (n := 5) (f := fun j => (ls[j]?).map Prod.fst) (w' := w8 cy (q, r1, r2, r3, r4, o1, r5, as, ls ++ [(o2, r)])) rfl rfl (get_app _ _ _) rfl (by omega) (by decide) dX8_init_91 ?_ ?_
        · show (q, _) :: (r1, _) :: (r2, _) :: (r3, _) :: (r4, _) :: ((w11 cy o1 r5 as ++ ls.flatMap (lnE cy)) ++ lnE cy (o2, r)) = _
          rw [va_up_app Prod.fst ls (o2, r) o2 rfl]
          unfold w8
          rw [List.flatMap_append, List.append_assoc]; simp
        refine J_iinc (pc := 92) (L' := [(1, vi ((ls.length : Int) + 1)), (0, .ref q)]) C dX8_init_92 (Nat.le_of_ble_eq_true rfl) 0 rfl rfl ?_
        refine J_goto (pc := 95) C 74 dX8_init_95 rfl ?_
        have h9 := ih (ls ++ [(o2, r)]) (by rw [List.length_append, List.length_singleton]; omega)
        rw [List.length_append, List.length_singleton] at h9
        exact J_cast (by show _ + 1 + 1 = _; omega) (by show _ + 8 + 6 = _; omega) (by rw [Int.natCast_add]; rfl) rfl h9
  exact J_cast rfl rfl rfl (by unfold w8; simp) (loop 5 [] rfl)

abbrev rm_X6_init : Room := { frames := 4, cells := 265, slots := 2592, locals := 82 }
theorem mk_X6_init {Z : vZ} {l : Launch} {cy : Nat → ClassId} {E : Nat → Nat → Nat} {G : va_G} (zk : Zok Z) (zm : ZM Z) (zc : ZC Z E) (zs : ZS Z E) (q : Nat) : MkV Z l yX6_init cX6_init 2 rm_X6_init G (tyL cy) [.ref q] [(q, .inr (7, [.null, vi 0, vi 0]))] (fun w => ∃ (r1 : Nat) (ds : List ND), ds.length = 8 ∧ (∀ d ∈ ds, g8 d) ∧ w = w6 cy q r1 ds) := by
  refine mkV_of (by decide +kernel) (Nat.le_of_ble_eq_true rfl) rfl (fun X A Q hZ hX hin C hend => ?_)
  refine J_aload_n (pc := 0) C dX6_init_0 rfl 0 rfl ?_
  refine E_obj (pc := 1) C ke_124 ke_0 ke_1 (Nat.le_of_ble_eq_true rfl) (by decide) (by decide) dX6_init_1 ?_
  refine J_aload_n (pc := 4) C dX6_init_4 rfl 0 rfl ?_
  refine J_bipush (pc := 5) C dX6_init_5 (by decide) ?_
  refine E_newq (pc := 7) zm hZ C "RingTransit$Network" (by decide) 8 rfl (by decide) 5 rfl ke_125 (by decide) dX6_init_7 (fun r1 => ?_)
  refine E_putF (pc := 10) C hin 0 7 0 3 (Cn := RX6) (Tn := TX6) (ty := (.array (.object "RingTransit$Network"))) (w' := [(q, .inr (7, [.ref r1, vi 0, vi 0])), (r1, .inl (cy 5, 8, .inr (.inr (.inr (.inr (fun _ => none))))))]) rfl rfl inX6 (by decide) tyX6 tyX6_ok nmX6 rfl rfl (Nat.le_of_ble_eq_true rfl) ke_126 (by decide +kernel) rfl rfl dX6_init_10 rfl ?_
  refine J_aload_n (pc := 13) C dX6_init_13 rfl 0 rfl ?_
  refine J_iconst (pc := 14) C dX6_init_14 ?_
  refine E_put (pc := 15) C 0 7 1 3 (Cn := RX6) (Tn := TX6) (ty := .int) (w' := [(q, .inr (7, [.ref r1, vi 0, vi 0])), (r1, .inl (cy 5, 8, .inr (.inr (.inr (.inr (fun _ => none))))))]) rfl rfl inX6 (by decide) tyX6 tyX6_ok nmX6 rfl (Nat.le_of_ble_eq_true rfl) ke_127 (by decide +kernel) rfl rfl dX6_init_15 rfl ?_
  refine J_aload_n (pc := 18) C dX6_init_18 rfl 0 rfl ?_
  refine J_iconst (pc := 19) C dX6_init_19 ?_
  refine E_put (pc := 20) C 0 7 2 3 (Cn := RX6) (Tn := TX6) (ty := .int) (w' := [(q, .inr (7, [.ref r1, vi 0, vi 0])), (r1, .inl (cy 5, 8, .inr (.inr (.inr (.inr (fun _ => none))))))]) rfl rfl inX6 (by decide) tyX6 tyX6_ok nmX6 rfl (Nat.le_of_ble_eq_true rfl) ke_128 (by decide +kernel) rfl rfl dX6_init_20 rfl ?_
  refine J_iconst (pc := 23) C dX6_init_23 ?_
  refine J_istore_n (pc := 24) (L' := [(1, vi 0), (0, .ref q)]) C dX6_init_24 rfl (Nat.le_of_ble_eq_true rfl) rfl ?_
  have loop : ∀ (m : Nat) (ds : List ND), (∀ d ∈ ds, g8 d) → ds.length + m = 8 → J X (YE G A 2 Q) (1 + 33 * ds.length) (8 + 323 * ds.length) 25 [(1, vi (ds.length : Int)), (0, .ref q)] [] (w6 cy q r1 ds) := by
    intro m
    induction m with
    | zero =>
      intro ds hg h
      refine J_iload_n (pc := 25) C dX6_init_25 rfl 0 rfl ?_
      refine J_bipush (pc := 26) C dX6_init_26 (by decide) ?_
      refine J_icmp_ge (pc := 28) C 50 dX6_init_28 rfl (rng_s (by omega)) ⟨by decide, by decide⟩ (fun c => ?_) (fun c => ?_)
      · refine J_wid (by show _ ≤ 265; omega) (by show _ ≤ 2592; omega) (hend 50 _ _ dX6_init_50 ⟨r1, ds, by omega, hg, rfl⟩)
      · exact absurd h (by omega)
    | succ m ih =>
      intro ds hg h
      refine J_iload_n (pc := 25) C dX6_init_25 rfl 0 rfl ?_
      refine J_bipush (pc := 26) C dX6_init_26 (by decide) ?_
      refine J_icmp_ge (pc := 28) C 50 dX6_init_28 rfl (rng_s (by omega)) ⟨by decide, by decide⟩ (fun c => ?_) (fun c => ?_)
      · exact absurd h (by omega)
      · refine J_aload_n (pc := 31) C dX6_init_31 rfl 1 rfl ?_
        refine E_get (pc := 32) C 0 7 0 3 (Cn := RX6) (Tn := TX6) (v := .ref r1) rfl rfl inX6 (by decide) ke_126 rfl dX6_init_32 ?_
        refine J_iload_n (pc := 35) C dX6_init_35 rfl 0 rfl ?_
        refine E_new (pc := 36) C 9 10 (Cn := RX8) (Tn := TX8) [vi 0, vi 0, vi 0, .null, .null, vi 0, .null, vi 0, .null, .null] rfl inX8 tyX8 tyX8_ok ke_129 ke_130 ke_102 (fun j hj => match j, hj with | 0, _ => rfl | 1, _ => rfl | 2, _ => rfl | 3, _ => rfl | 4, _ => rfl | 5, _ => rfl | 6, _ => rfl | 7, _ => rfl | 8, _ => rfl | 9, _ => rfl | n + 10, h => absurd h (by omega)) ⟨by show _ ≤ 265; omega, by show _ ≤ 2592; omega⟩ dX6_init_36 (fun o1 => ?_)
        refine J_dup (pc := 39) C dX6_init_39 rfl ?_
        refine E_call (pc := 40) (w := w6 cy q r1 ds) zk hZ C [] [.ref o1, vi (ds.length : Int), .ref r1] (mk_X8_init zk zm zc zs o1) ke_131 ki_X8_init rfl rfl (Nat.le_of_ble_eq_true rfl) ⟨⟨by decide, by decide⟩, by show _ + 32 ≤ 265; omega, by show _ + 313 ≤ 2592; omega⟩ dX6_init_40 (fun w1 hw1 => ?_)
        obtain ⟨d, rfl, hd, rfl⟩ := hw1
        refine E_astq (pc := 43) C ds.length rfl 1 5 (w6 cy q r1 ds).length 9 (cA := cy 5) (r := ("RingTransit$Network", TX8, 10)) (n := 8) (f := fun j => (ds[j]?).map Prod.fst) (w' := w6 cy q r1 (ds ++ [d])) rfl rfl (get_app _ _ _) rfl (by omega) (by decide) dX6_init_43 ?_ ?_
        · show (q, _) :: (r1, _) :: (ds.flatMap (w8 cy) ++ w8 cy d) = _
          rw [va_up_app Prod.fst ds d d.1 rfl]
          unfold w6
          rw [List.flatMap_append]; simp
        refine J_iinc (pc := 44) (L' := [(1, vi ((ds.length : Int) + 1)), (0, .ref q)]) C dX6_init_44 (Nat.le_of_ble_eq_true rfl) 0 rfl rfl ?_
        refine J_goto (pc := 47) C 25 dX6_init_47 rfl ?_
        have h9 := ih (ds ++ [d]) (fun d' h' => by
          rcases List.mem_append.mp h' with h' | h'
          · exact hg d' h'
          · rw [List.mem_singleton.mp h']; exact hd) (by rw [List.length_append, List.length_singleton]; omega)
        rw [List.length_append, List.length_singleton] at h9
        exact J_cast (by show _ + 1 + 32 = _; omega) (by show _ + 10 + 313 = _; omega) (by rw [Int.natCast_add]; rfl) rfl h9
  exact J_cast rfl rfl rfl (by unfold w6; simp) (loop 8 [] (fun _ h => absurd h List.not_mem_nil) rfl)

abbrev rm_X9_init : Room := { frames := 1, cells := 3, slots := 140, locals := 20 }
theorem mk_X9_init {Z : vZ} {l : Launch} {cy : Nat → ClassId} {E : Nat → Nat → Nat} {G : va_G} (zk : Zok Z) (zm : ZM Z) (zc : ZC Z E) (zs : ZS Z E) (q : Nat) : MkV Z l yX9_init cX9_init 2 rm_X9_init G (tyL cy) [.ref q] [(q, .inr (10, [.null, vi 0, vi 0, vi 0, .null, .null]))] (fun w => ∃ r1 r2 r3 : Nat, w = w9 cy E q r1 r2 r3 16) := by
  refine mkV_of (by decide +kernel) (Nat.le_of_ble_eq_true rfl) rfl (fun X A Q hZ hX hin C hend => ?_)
  refine J_aload_n (pc := 0) C dX9_init_0 rfl 0 rfl ?_
  refine E_obj (pc := 1) C ke_135 ke_0 ke_1 (Nat.le_of_ble_eq_true rfl) (by decide) (by decide) dX9_init_1 ?_
  refine J_aload_n (pc := 4) C dX9_init_4 rfl 0 rfl ?_
  refine J_bipush (pc := 5) C dX9_init_5 (by decide) ?_
  refine E_newa (pc := 7) C .char (ty := .char) rfl 60 rfl (by decide) 2 rfl (60, .inl (fun _ => 0)) (fun _ => rfl) ke_136 (by decide) (by decide) dX9_init_7 (fun r1 => ?_)
  refine E_putF (pc := 9) C hin 0 10 0 6 (Cn := RX9) (Tn := TX9) (ty := (.array .char)) (w' := [(q, .inr (10, [.ref r1, vi 0, vi 0, vi 0, .null, .null])), (r1, .inl (cy 2, 60, .inl (fun _ => 0)))]) rfl rfl inX9 (by decide) tyX9 tyX9_ok nmX9 rfl rfl (Nat.le_of_ble_eq_true rfl) ke_137 (by decide +kernel) rfl rfl dX9_init_9 rfl ?_
  refine J_aload_n (pc := 12) C dX9_init_12 rfl 0 rfl ?_
  refine J_iconst (pc := 13) C dX9_init_13 ?_
  refine E_put (pc := 14) C 0 10 1 6 (Cn := RX9) (Tn := TX9) (ty := .int) (w' := [(q, .inr (10, [.ref r1, vi 0, vi 0, vi 0, .null, .null])), (r1, .inl (cy 2, 60, .inl (fun _ => 0)))]) rfl rfl inX9 (by decide) tyX9 tyX9_ok nmX9 rfl (Nat.le_of_ble_eq_true rfl) ke_138 (by decide +kernel) rfl rfl dX9_init_14 rfl ?_
  refine J_aload_n (pc := 17) C dX9_init_17 rfl 0 rfl ?_
  refine J_iconst (pc := 18) C dX9_init_18 ?_
  refine E_put (pc := 19) C 0 10 2 6 (Cn := RX9) (Tn := TX9) (ty := .int) (w' := [(q, .inr (10, [.ref r1, vi 0, vi 0, vi 0, .null, .null])), (r1, .inl (cy 2, 60, .inl (fun _ => 0)))]) rfl rfl inX9 (by decide) tyX9 tyX9_ok nmX9 rfl (Nat.le_of_ble_eq_true rfl) ke_139 (by decide +kernel) rfl rfl dX9_init_19 rfl ?_
  refine J_aload_n (pc := 22) C dX9_init_22 rfl 0 rfl ?_
  refine J_iconst (pc := 23) C dX9_init_23 ?_
  refine E_put (pc := 24) C 0 10 3 6 (Cn := RX9) (Tn := TX9) (ty := .int) (w' := [(q, .inr (10, [.ref r1, vi 0, vi 0, vi 0, .null, .null])), (r1, .inl (cy 2, 60, .inl (fun _ => 0)))]) rfl rfl inX9 (by decide) tyX9 tyX9_ok nmX9 rfl (Nat.le_of_ble_eq_true rfl) ke_140 (by decide +kernel) rfl rfl dX9_init_24 rfl ?_
  refine J_aload_n (pc := 27) C dX9_init_27 rfl 0 rfl ?_
  refine J_bipush (pc := 28) C dX9_init_28 (by decide) ?_
  refine E_newq (pc := 30) zm hZ C "RingTransit$Command" (by decide) 16 rfl (by decide) 6 rfl ke_141 (by decide) dX9_init_30 (fun r2 => ?_)
  refine E_putF (pc := 33) C hin 0 10 4 6 (Cn := RX9) (Tn := TX9) (ty := (.array (.object "RingTransit$Command"))) (w' := [(q, .inr (10, [.ref r1, vi 0, vi 0, vi 0, .ref r2, .null])), (r1, .inl (cy 2, 60, .inl (fun _ => 0))), (r2, .inl (cy 6, 16, .inr (.inr (.inr (.inr (fun _ => none))))))]) rfl rfl inX9 (by decide) tyX9 tyX9_ok nmX9 rfl rfl (Nat.le_of_ble_eq_true rfl) ke_142 (by decide +kernel) rfl rfl dX9_init_33 rfl ?_
  refine J_aload_n (pc := 36) C dX9_init_36 rfl 0 rfl ?_
  refine J_bipush (pc := 37) C dX9_init_37 (by decide) ?_
  refine E_newa (pc := 39) C .int (ty := .int) rfl 64 rfl (by decide) 0 rfl (64, .inl (fun _ => 0)) (fun _ => rfl) ke_23 (by decide) (by decide) dX9_init_39 (fun r3 => ?_)
  refine E_putF (pc := 41) C hin 0 10 5 6 (Cn := RX9) (Tn := TX9) (ty := (.array .int)) (w' := [(q, .inr (10, [.ref r1, vi 0, vi 0, vi 0, .ref r2, .ref r3])), (r1, .inl (cy 2, 60, .inl (fun _ => 0))), (r2, .inl (cy 6, 16, .inr (.inr (.inr (.inr (fun _ => none)))))), (r3, .inl (cy 0, 64, .inl (fun _ => 0)))]) rfl rfl inX9 (by decide) tyX9 tyX9_ok nmX9 rfl rfl (Nat.le_of_ble_eq_true rfl) ke_143 (by decide +kernel) rfl rfl dX9_init_41 rfl ?_
  refine J_iconst (pc := 44) C dX9_init_44 ?_
  refine J_istore_n (pc := 45) (L' := [(1, vi 0), (0, .ref q)]) C dX9_init_45 rfl (Nat.le_of_ble_eq_true rfl) rfl ?_
  have loop : ∀ (m k : Nat), k + m = 16 → J X (YE G A 2 Q) 3 140 46 [(1, vi (k : Int)), (0, .ref q)] [] (w9 cy E q r1 r2 r3 k) := by
    intro m
    induction m with
    | zero =>
      intro k h
      refine J_iload_n (pc := 46) C dX9_init_46 rfl 0 rfl ?_
      refine J_bipush (pc := 47) C dX9_init_47 (by decide) ?_
      refine J_icmp_ge (pc := 49) C 67 dX9_init_49 rfl (rng_s (by omega)) ⟨by decide, by decide⟩ (fun c => ?_) (fun c => ?_)
      · have e : k = 16 := by omega
        subst e
        exact hend 67 _ _ dX9_init_67 ⟨r1, r2, r3, rfl⟩
      · exact absurd h (by omega)
    | succ m ih =>
      intro k h
      refine J_iload_n (pc := 46) C dX9_init_46 rfl 0 rfl ?_
      refine J_bipush (pc := 47) C dX9_init_47 (by decide) ?_
      refine J_icmp_ge (pc := 49) C 67 dX9_init_49 rfl (rng_s (by omega)) ⟨by decide, by decide⟩ (fun c => ?_) (fun c => ?_)
      · exact absurd h (by omega)
      · refine J_aload_n (pc := 52) C dX9_init_52 rfl 1 rfl ?_
        refine E_get (pc := 53) C 0 10 4 6 (Cn := RX9) (Tn := TX9) (v := .ref r2) rfl rfl inX9 (by decide) ke_142 rfl dX9_init_53 ?_
        refine J_iload_n (pc := 56) C dX9_init_56 rfl 0 rfl ?_
        refine E_gets (pc := 57) zc hZ C ke_144 dX9_init_57 ?_
        refine E_asts (pc := 60) zc hZ C k rfl 2 6 (cA := cy 6) (n := 16) (f := fun j => if j < k then some (E 1 6) else none) (w' := w9 cy E q r1 r2 r3 (k + 1)) rfl rfl (by omega) (by decide) dX9_init_60 ?_ ?_
        · rw [va_up_k]; rfl
        refine J_iinc (pc := 61) (L' := [(1, vi ((k : Int) + 1)), (0, .ref q)]) C dX9_init_61 (Nat.le_of_ble_eq_true rfl) 0 rfl rfl ?_
        refine J_goto (pc := 64) C 46 dX9_init_64 rfl ?_
        exact ih (k + 1) (by omega)
  exact J_cast rfl rfl rfl (by unfold w9; simp) (loop 16 0 rfl)

abbrev rm_X12_init : Room := { frames := 5, cells := 391, slots := 4147, locals := 103 }
theorem mk_X12_init {Z : vZ} {l : Launch} {cy : Nat → ClassId} {E : Nat → Nat → Nat} {G : va_G} (zk : Zok Z) (zm : ZM Z) (zc : ZC Z E) (zs : ZS Z E) (q : Nat) : MkV Z l yX12_init cX12_init 1 rm_X12_init G (tyL cy) [.ref q] [(q, .inr (13, [.null, .null, .null, vi 0, .null, .null, .null, .null, .null, .null, vi 0, vi 0, .null]))] (fun w => ∃ (o1 o2 o3 o4 o5 o6 o7 o8 o9 o10 : Nat) (w1 w2 w3 w4 w5 w6 w7 w8 w9 w10 : va_W), R12_0 cy E o1 w1 ∧ R12_1 cy E o2 w2 ∧ R12_2 cy E o3 w3 ∧ R12_3 cy E o4 w4 ∧ R12_4 cy E o5 w5 ∧ R12_5 cy E o6 w6 ∧ R12_6 cy E o7 w7 ∧ R12_7 cy E o8 w8 ∧ R12_8 cy E o9 w9 ∧ R12_9 cy E o10 w10 ∧ w = (q, .inr (13, [.ref o1, .ref o2, .ref o3, vi 0, .ref o4, .ref o5, .ref o6, .ref o7, .ref o8, .ref o9, vi (-1), vi (-1), .ref o10])) :: ([] ++ w1 ++ w2 ++ w3 ++ w4 ++ w5 ++ w6 ++ w7 ++ w8 ++ w9 ++ w10)) := by
  refine mkV_of (by decide +kernel) (Nat.le_of_ble_eq_true rfl) rfl (fun X A Q hZ hX hin C hend => ?_)
  refine J_aload_n (pc := 0) C dX12_init_0 rfl 0 rfl ?_
  refine E_obj (pc := 1) C ke_148 ke_0 ke_1 (Nat.le_of_ble_eq_true rfl) (by decide) (by decide) dX12_init_1 ?_
  refine J_aload_n (pc := 4) C dX12_init_4 rfl 0 rfl ?_
  refine E_new (pc := 5) C 9 10 (Cn := RX8) (Tn := TX8) [vi 0, vi 0, vi 0, .null, .null, vi 0, .null, vi 0, .null, .null] rfl inX8 tyX8 tyX8_ok ke_149 ke_130 ke_102 (fun j hj => match j, hj with | 0, _ => rfl | 1, _ => rfl | 2, _ => rfl | 3, _ => rfl | 4, _ => rfl | 5, _ => rfl | 6, _ => rfl | 7, _ => rfl | 8, _ => rfl | 9, _ => rfl | n + 10, h => absurd h (by omega)) (by decide) dX12_init_5 (fun o1 => ?_)
  refine J_dup (pc := 8) C dX12_init_8 rfl ?_
  refine E_call (pc := 9) (w := (q, .inr (13, [.null, .null, .null, vi 0, .null, .null, .null, .null, .null, .null, vi 0, vi 0, .null])) :: ([])) zk hZ C [] [.ref o1, .ref q] (mk_X8_init zk zm zc zs o1) ke_150 ki_X8_init rfl rfl (Nat.le_of_ble_eq_true rfl) ⟨⟨by decide, by decide⟩, by decide, by decide⟩ dX12_init_9 (fun w1 hw1 => ?_)
  refine E_putF (pc := 12) C hin 0 13 0 13 (Cn := RX12) (Tn := TX12) (ty := (.object "RingTransit$Network")) (w' := (q, .inr (13, [.ref o1, .null, .null, vi 0, .null, .null, .null, .null, .null, .null, vi 0, vi 0, .null])) :: ([] ++ w1)) rfl rfl inX12 (by decide) tyX12 tyX12_ok nmX12 rfl rfl (Nat.le_of_ble_eq_true rfl) ke_151 (by decide +kernel) rfl rfl dX12_init_12 rfl ?_
  refine J_aload_n (pc := 15) C dX12_init_15 rfl 0 rfl ?_
  refine E_new (pc := 16) C 9 10 (Cn := RX8) (Tn := TX8) [vi 0, vi 0, vi 0, .null, .null, vi 0, .null, vi 0, .null, .null] rfl inX8 tyX8 tyX8_ok ke_149 ke_130 ke_102 (fun j hj => match j, hj with | 0, _ => rfl | 1, _ => rfl | 2, _ => rfl | 3, _ => rfl | 4, _ => rfl | 5, _ => rfl | 6, _ => rfl | 7, _ => rfl | 8, _ => rfl | 9, _ => rfl | n + 10, h => absurd h (by omega)) (by decide) dX12_init_16 (fun o2 => ?_)
  refine J_dup (pc := 19) C dX12_init_19 rfl ?_
  refine E_call (pc := 20) (w := (q, .inr (13, [.ref o1, .null, .null, vi 0, .null, .null, .null, .null, .null, .null, vi 0, vi 0, .null])) :: ([] ++ w1)) zk hZ C [] [.ref o2, .ref q] (mk_X8_init zk zm zc zs o2) ke_150 ki_X8_init rfl rfl (Nat.le_of_ble_eq_true rfl) ⟨⟨by decide, by decide⟩, by decide, by decide⟩ dX12_init_20 (fun w2 hw2 => ?_)
  refine E_putF (pc := 23) C hin 0 13 1 13 (Cn := RX12) (Tn := TX12) (ty := (.object "RingTransit$Network")) (w' := (q, .inr (13, [.ref o1, .ref o2, .null, vi 0, .null, .null, .null, .null, .null, .null, vi 0, vi 0, .null])) :: ([] ++ w1 ++ w2)) rfl rfl inX12 (by decide) tyX12 tyX12_ok nmX12 rfl rfl (Nat.le_of_ble_eq_true rfl) ke_152 (by decide +kernel) rfl rfl dX12_init_23 rfl ?_
  refine J_aload_n (pc := 26) C dX12_init_26 rfl 0 rfl ?_
  refine E_new (pc := 27) C 9 10 (Cn := RX8) (Tn := TX8) [vi 0, vi 0, vi 0, .null, .null, vi 0, .null, vi 0, .null, .null] rfl inX8 tyX8 tyX8_ok ke_149 ke_130 ke_102 (fun j hj => match j, hj with | 0, _ => rfl | 1, _ => rfl | 2, _ => rfl | 3, _ => rfl | 4, _ => rfl | 5, _ => rfl | 6, _ => rfl | 7, _ => rfl | 8, _ => rfl | 9, _ => rfl | n + 10, h => absurd h (by omega)) (by decide) dX12_init_27 (fun o3 => ?_)
  refine J_dup (pc := 30) C dX12_init_30 rfl ?_
  refine E_call (pc := 31) (w := (q, .inr (13, [.ref o1, .ref o2, .null, vi 0, .null, .null, .null, .null, .null, .null, vi 0, vi 0, .null])) :: ([] ++ w1 ++ w2)) zk hZ C [] [.ref o3, .ref q] (mk_X8_init zk zm zc zs o3) ke_150 ki_X8_init rfl rfl (Nat.le_of_ble_eq_true rfl) ⟨⟨by decide, by decide⟩, by decide, by decide⟩ dX12_init_31 (fun w3 hw3 => ?_)
  refine E_putF (pc := 34) C hin 0 13 2 13 (Cn := RX12) (Tn := TX12) (ty := (.object "RingTransit$Network")) (w' := (q, .inr (13, [.ref o1, .ref o2, .ref o3, vi 0, .null, .null, .null, .null, .null, .null, vi 0, vi 0, .null])) :: ([] ++ w1 ++ w2 ++ w3)) rfl rfl inX12 (by decide) tyX12 tyX12_ok nmX12 rfl rfl (Nat.le_of_ble_eq_true rfl) ke_153 (by decide +kernel) rfl rfl dX12_init_34 rfl ?_
  refine J_aload_n (pc := 37) C dX12_init_37 rfl 0 rfl ?_
  refine J_iconst (pc := 38) C dX12_init_38 ?_
  refine E_put (pc := 39) C 0 13 3 13 (Cn := RX12) (Tn := TX12) (ty := .boolean) (w' := (q, .inr (13, [.ref o1, .ref o2, .ref o3, vi 0, .null, .null, .null, .null, .null, .null, vi 0, vi 0, .null])) :: ([] ++ w1 ++ w2 ++ w3)) rfl rfl inX12 (by decide) tyX12 tyX12_ok nmX12 rfl (Nat.le_of_ble_eq_true rfl) ke_154 (by decide +kernel) rfl rfl dX12_init_39 rfl ?_
  refine J_aload_n (pc := 42) C dX12_init_42 rfl 0 rfl ?_
  refine E_new (pc := 43) C 7 3 (Cn := RX6) (Tn := TX6) [.null, vi 0, vi 0] rfl inX6 tyX6 tyX6_ok ke_155 ke_156 ke_122 (fun j hj => match j, hj with | 0, _ => rfl | 1, _ => rfl | 2, _ => rfl | n + 3, h => absurd h (by omega)) (by decide) dX12_init_43 (fun o4 => ?_)
  refine J_dup (pc := 46) C dX12_init_46 rfl ?_
  refine E_call (pc := 47) (w := (q, .inr (13, [.ref o1, .ref o2, .ref o3, vi 0, .null, .null, .null, .null, .null, .null, vi 0, vi 0, .null])) :: ([] ++ w1 ++ w2 ++ w3)) zk hZ C [] [.ref o4, .ref q] (mk_X6_init zk zm zc zs o4) ke_157 ki_X6_init rfl rfl (Nat.le_of_ble_eq_true rfl) ⟨⟨by decide, by decide⟩, by decide, by decide⟩ dX12_init_47 (fun w4 hw4 => ?_)
  refine E_putF (pc := 50) C hin 0 13 4 13 (Cn := RX12) (Tn := TX12) (ty := (.object "RingTransit$History")) (w' := (q, .inr (13, [.ref o1, .ref o2, .ref o3, vi 0, .ref o4, .null, .null, .null, .null, .null, vi 0, vi 0, .null])) :: ([] ++ w1 ++ w2 ++ w3 ++ w4)) rfl rfl inX12 (by decide) tyX12 tyX12_ok nmX12 rfl rfl (Nat.le_of_ble_eq_true rfl) ke_158 (by decide +kernel) rfl rfl dX12_init_50 rfl ?_
  refine J_aload_n (pc := 53) C dX12_init_53 rfl 0 rfl ?_
  refine E_new (pc := 54) C 4 4 (Cn := RX1) (Tn := TX1) [.null, .null, .null, .null] rfl inX1 tyX1 tyX1_ok ke_159 ke_160 ke_26 (fun j hj => match j, hj with | 0, _ => rfl | 1, _ => rfl | 2, _ => rfl | 3, _ => rfl | n + 4, h => absurd h (by omega)) (by decide) dX12_init_54 (fun o5 => ?_)
  refine J_dup (pc := 57) C dX12_init_57 rfl ?_
  refine E_callN (pc := 58) (w := (q, .inr (13, [.ref o1, .ref o2, .ref o3, vi 0, .ref o4, .null, .null, .null, .null, .null, vi 0, vi 0, .null])) :: ([] ++ w1 ++ w2 ++ w3 ++ w4)) zk zm hZ C [.ref o5, .ref q] (mk_X1_init zk zm zc zs o5) "RingTransit" (by decide +kernel) ki_X1_init (Nat.le_of_ble_eq_true rfl) ⟨⟨by decide, by decide⟩, by decide, by decide⟩ dX12_init_58 (fun w5 hw5 => ?_)
  refine E_putF (pc := 61) C hin 0 13 5 13 (Cn := RX12) (Tn := TX12) (ty := (.object "RingTransit$Arrivals")) (w' := (q, .inr (13, [.ref o1, .ref o2, .ref o3, vi 0, .ref o4, .ref o5, .null, .null, .null, .null, vi 0, vi 0, .null])) :: ([] ++ w1 ++ w2 ++ w3 ++ w4 ++ w5)) rfl rfl inX12 (by decide) tyX12 tyX12_ok nmX12 rfl rfl (Nat.le_of_ble_eq_true rfl) ke_161 (by decide +kernel) rfl rfl dX12_init_61 rfl ?_
  refine J_aload_n (pc := 64) C dX12_init_64 rfl 0 rfl ?_
  refine E_new (pc := 65) C 4 4 (Cn := RX1) (Tn := TX1) [.null, .null, .null, .null] rfl inX1 tyX1 tyX1_ok ke_159 ke_160 ke_26 (fun j hj => match j, hj with | 0, _ => rfl | 1, _ => rfl | 2, _ => rfl | 3, _ => rfl | n + 4, h => absurd h (by omega)) (by decide) dX12_init_65 (fun o6 => ?_)
  refine J_dup (pc := 68) C dX12_init_68 rfl ?_
  refine E_callN (pc := 69) (w := (q, .inr (13, [.ref o1, .ref o2, .ref o3, vi 0, .ref o4, .ref o5, .null, .null, .null, .null, vi 0, vi 0, .null])) :: ([] ++ w1 ++ w2 ++ w3 ++ w4 ++ w5)) zk zm hZ C [.ref o6, .ref q] (mk_X1_init zk zm zc zs o6) "RingTransit" (by decide +kernel) ki_X1_init (Nat.le_of_ble_eq_true rfl) ⟨⟨by decide, by decide⟩, by decide, by decide⟩ dX12_init_69 (fun w6 hw6 => ?_)
  refine E_putF (pc := 72) C hin 0 13 6 13 (Cn := RX12) (Tn := TX12) (ty := (.object "RingTransit$Arrivals")) (w' := (q, .inr (13, [.ref o1, .ref o2, .ref o3, vi 0, .ref o4, .ref o5, .ref o6, .null, .null, .null, vi 0, vi 0, .null])) :: ([] ++ w1 ++ w2 ++ w3 ++ w4 ++ w5 ++ w6)) rfl rfl inX12 (by decide) tyX12 tyX12_ok nmX12 rfl rfl (Nat.le_of_ble_eq_true rfl) ke_162 (by decide +kernel) rfl rfl dX12_init_72 rfl ?_
  refine J_aload_n (pc := 75) C dX12_init_75 rfl 0 rfl ?_
  refine E_new (pc := 76) C 5 2 (Cn := RX2) (Tn := TX2) [.null, .null] rfl inX2 tyX2 tyX2_ok ke_163 ke_164 ke_35 (fun j hj => match j, hj with | 0, _ => rfl | 1, _ => rfl | n + 2, h => absurd h (by omega)) (by decide) dX12_init_76 (fun o7 => ?_)
  refine J_dup (pc := 79) C dX12_init_79 rfl ?_
  refine E_callN (pc := 80) (w := (q, .inr (13, [.ref o1, .ref o2, .ref o3, vi 0, .ref o4, .ref o5, .ref o6, .null, .null, .null, vi 0, vi 0, .null])) :: ([] ++ w1 ++ w2 ++ w3 ++ w4 ++ w5 ++ w6)) zk zm hZ C [.ref o7, .ref q] (mk_X2_init zk zm zc zs o7) "RingTransit" (by decide +kernel) ki_X2_init (Nat.le_of_ble_eq_true rfl) ⟨⟨by decide, by decide⟩, by decide, by decide⟩ dX12_init_80 (fun w7 hw7 => ?_)
  refine E_putF (pc := 83) C hin 0 13 7 13 (Cn := RX12) (Tn := TX12) (ty := (.object "RingTransit$Boardings")) (w' := (q, .inr (13, [.ref o1, .ref o2, .ref o3, vi 0, .ref o4, .ref o5, .ref o6, .ref o7, .null, .null, vi 0, vi 0, .null])) :: ([] ++ w1 ++ w2 ++ w3 ++ w4 ++ w5 ++ w6 ++ w7)) rfl rfl inX12 (by decide) tyX12 tyX12_ok nmX12 rfl rfl (Nat.le_of_ble_eq_true rfl) ke_165 (by decide +kernel) rfl rfl dX12_init_83 rfl ?_
  refine J_aload_n (pc := 86) C dX12_init_86 rfl 0 rfl ?_
  refine E_new (pc := 87) C 6 7 (Cn := RX5) (Tn := TX5) [.null, .null, .null, vi 0, .null, .null, .null] rfl inX5 tyX5 tyX5_ok ke_166 ke_167 ke_41 (fun j hj => match j, hj with | 0, _ => rfl | 1, _ => rfl | 2, _ => rfl | 3, _ => rfl | 4, _ => rfl | 5, _ => rfl | 6, _ => rfl | n + 7, h => absurd h (by omega)) (by decide) dX12_init_87 (fun o8 => ?_)
  refine J_dup (pc := 90) C dX12_init_90 rfl ?_
  refine E_callN (pc := 91) (w := (q, .inr (13, [.ref o1, .ref o2, .ref o3, vi 0, .ref o4, .ref o5, .ref o6, .ref o7, .null, .null, vi 0, vi 0, .null])) :: ([] ++ w1 ++ w2 ++ w3 ++ w4 ++ w5 ++ w6 ++ w7)) zk zm hZ C [.ref o8, .ref q] (mk_X5_init zk zm zc zs o8) "RingTransit" (by decide +kernel) ki_X5_init (Nat.le_of_ble_eq_true rfl) ⟨⟨by decide, by decide⟩, by decide, by decide⟩ dX12_init_91 (fun w8 hw8 => ?_)
  refine E_putF (pc := 94) C hin 0 13 8 13 (Cn := RX12) (Tn := TX12) (ty := (.object "RingTransit$Flows")) (w' := (q, .inr (13, [.ref o1, .ref o2, .ref o3, vi 0, .ref o4, .ref o5, .ref o6, .ref o7, .ref o8, .null, vi 0, vi 0, .null])) :: ([] ++ w1 ++ w2 ++ w3 ++ w4 ++ w5 ++ w6 ++ w7 ++ w8)) rfl rfl inX12 (by decide) tyX12 tyX12_ok nmX12 rfl rfl (Nat.le_of_ble_eq_true rfl) ke_168 (by decide +kernel) rfl rfl dX12_init_94 rfl ?_
  refine J_aload_n (pc := 97) C dX12_init_97 rfl 0 rfl ?_
  refine E_new (pc := 98) C 10 6 (Cn := RX9) (Tn := TX9) [.null, vi 0, vi 0, vi 0, .null, .null] rfl inX9 tyX9 tyX9_ok ke_169 ke_170 ke_133 (fun j hj => match j, hj with | 0, _ => rfl | 1, _ => rfl | 2, _ => rfl | 3, _ => rfl | 4, _ => rfl | 5, _ => rfl | n + 6, h => absurd h (by omega)) (by decide) dX12_init_98 (fun o9 => ?_)
  refine J_dup (pc := 101) C dX12_init_101 rfl ?_
  refine E_call (pc := 102) (w := (q, .inr (13, [.ref o1, .ref o2, .ref o3, vi 0, .ref o4, .ref o5, .ref o6, .ref o7, .ref o8, .null, vi 0, vi 0, .null])) :: ([] ++ w1 ++ w2 ++ w3 ++ w4 ++ w5 ++ w6 ++ w7 ++ w8)) zk hZ C [] [.ref o9, .ref q] (mk_X9_init zk zm zc zs o9) ke_171 ki_X9_init rfl rfl (Nat.le_of_ble_eq_true rfl) ⟨⟨by decide, by decide⟩, by decide, by decide⟩ dX12_init_102 (fun w9 hw9 => ?_)
  refine E_putF (pc := 105) C hin 0 13 9 13 (Cn := RX12) (Tn := TX12) (ty := (.object "RingTransit$Script")) (w' := (q, .inr (13, [.ref o1, .ref o2, .ref o3, vi 0, .ref o4, .ref o5, .ref o6, .ref o7, .ref o8, .ref o9, vi 0, vi 0, .null])) :: ([] ++ w1 ++ w2 ++ w3 ++ w4 ++ w5 ++ w6 ++ w7 ++ w8 ++ w9)) rfl rfl inX12 (by decide) tyX12 tyX12_ok nmX12 rfl rfl (Nat.le_of_ble_eq_true rfl) ke_172 (by decide +kernel) rfl rfl dX12_init_105 rfl ?_
  refine J_aload_n (pc := 108) C dX12_init_108 rfl 0 rfl ?_
  refine J_iconst (pc := 109) C dX12_init_109 ?_
  refine E_put (pc := 110) C 0 13 10 13 (Cn := RX12) (Tn := TX12) (ty := .int) (w' := (q, .inr (13, [.ref o1, .ref o2, .ref o3, vi 0, .ref o4, .ref o5, .ref o6, .ref o7, .ref o8, .ref o9, vi (-1), vi 0, .null])) :: ([] ++ w1 ++ w2 ++ w3 ++ w4 ++ w5 ++ w6 ++ w7 ++ w8 ++ w9)) rfl rfl inX12 (by decide) tyX12 tyX12_ok nmX12 rfl (Nat.le_of_ble_eq_true rfl) ke_173 (by decide +kernel) rfl rfl dX12_init_110 rfl ?_
  refine J_aload_n (pc := 113) C dX12_init_113 rfl 0 rfl ?_
  refine J_iconst (pc := 114) C dX12_init_114 ?_
  refine E_put (pc := 115) C 0 13 11 13 (Cn := RX12) (Tn := TX12) (ty := .int) (w' := (q, .inr (13, [.ref o1, .ref o2, .ref o3, vi 0, .ref o4, .ref o5, .ref o6, .ref o7, .ref o8, .ref o9, vi (-1), vi (-1), .null])) :: ([] ++ w1 ++ w2 ++ w3 ++ w4 ++ w5 ++ w6 ++ w7 ++ w8 ++ w9)) rfl rfl inX12 (by decide) tyX12 tyX12_ok nmX12 rfl (Nat.le_of_ble_eq_true rfl) ke_174 (by decide +kernel) rfl rfl dX12_init_115 rfl ?_
  refine J_aload_n (pc := 118) C dX12_init_118 rfl 0 rfl ?_
  refine E_new (pc := 119) C 1 4 (Cn := RJ4) (Tn := TJ4) [.null, vi 0, vi 0, vi 0] rfl inJ4 tyJ4 tyJ4_ok ke_175 ke_176 ke_85 (fun j hj => match j, hj with | 0, _ => rfl | 1, _ => rfl | 2, _ => rfl | 3, _ => rfl | n + 4, h => absurd h (by omega)) (by decide) dX12_init_119 (fun o10 => ?_)
  refine J_dup (pc := 122) C dX12_init_122 rfl ?_
  refine E_call (pc := 123) (w := (q, .inr (13, [.ref o1, .ref o2, .ref o3, vi 0, .ref o4, .ref o5, .ref o6, .ref o7, .ref o8, .ref o9, vi (-1), vi (-1), .null])) :: ([] ++ w1 ++ w2 ++ w3 ++ w4 ++ w5 ++ w6 ++ w7 ++ w8 ++ w9)) zk hZ C [] [.ref o10, .ref q] (mk_J4_init_da8c8 zk zm zc zs o10) ke_177 ki_J4_init_da8c8 rfl rfl (Nat.le_of_ble_eq_true rfl) ⟨⟨by decide, by decide⟩, by decide, by decide⟩ dX12_init_123 (fun w10 hw10 => ?_)
  refine E_putF (pc := 126) C hin 0 13 12 13 (Cn := RX12) (Tn := TX12) (ty := (.object "java/lang/StringBuilder")) (w' := (q, .inr (13, [.ref o1, .ref o2, .ref o3, vi 0, .ref o4, .ref o5, .ref o6, .ref o7, .ref o8, .ref o9, vi (-1), vi (-1), .ref o10])) :: ([] ++ w1 ++ w2 ++ w3 ++ w4 ++ w5 ++ w6 ++ w7 ++ w8 ++ w9 ++ w10)) rfl rfl inX12 (by decide) tyX12 tyX12_ok nmX12 rfl rfl (Nat.le_of_ble_eq_true rfl) ke_178 (by decide +kernel) rfl rfl dX12_init_126 rfl ?_
  exact hend 129 _ _ dX12_init_129 ⟨o1, o2, o3, o4, o5, o6, o7, o8, o9, o10, w1, w2, w3, w4, w5, w6, w7, w8, w9, w10, hw1, hw2, hw3, hw4, hw5, hw6, hw7, hw8, hw9, hw10, rfl⟩
