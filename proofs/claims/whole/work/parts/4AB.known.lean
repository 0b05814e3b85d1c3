/-! what the start knows of the classes -/
section KN
variable {args : Array Value} {s : State}
theorem known_all (ht : tabT args s) : ∀ (k : Nat) (q : vw_C), vwCl[k]? = some q → ∃ (cC : ClassId) (iS : Nat → Nat), u_Kn s q.1 q.2.1 q.2.2 cC iS := fun k q hq => match k, hq with
  | 0, hq => by cases hq; exact u_known (C := RJ0) (T := TJ0) (N := 4) (n := 4) ht inJ09 (ht _ kz_c0)
  | 1, hq => by cases hq; exact u_known (C := RJ4) (T := TJ4) (N := 4) (n := 4) ht (fun w h => lwG_tbl (inJ4 w h)) (ht _ kz_c1)
  | 2, hq => by cases hq; exact u_known (C := RJx00060) (T := TJx00060) (N := 6) (n := 6) ht inJx000609 (ht _ kz_c2)
  | 3, hq => by cases hq; exact u_known (C := RJx7c733) (T := TJx7c733) (N := 6) (n := 6) ht inJx7c7339 (ht _ kz_c3)
  | 4, hq => by cases hq; exact u_known (C := RX1) (T := TX1) (N := 4) (n := 4) ht (fun w h => lwG_tbl (inX1 w h)) (ht _ kz_c4)
  | 5, hq => by cases hq; exact u_known (C := RX2) (T := TX2) (N := 2) (n := 2) ht (fun w h => lwG_tbl (inX2 w h)) (ht _ kz_c5)
  | 6, hq => by cases hq; exact u_known (C := RX5) (T := TX5) (N := 7) (n := 7) ht (fun w h => lwG_tbl (inX5 w h)) (ht _ kz_c6)
  | 7, hq => by cases hq; exact u_known (C := RX6) (T := TX6) (N := 3) (n := 3) ht (fun w h => lwG_tbl (inX6 w h)) (ht _ kz_c7)
  | 8, hq => by cases hq; exact u_known (C := RX7) (T := TX7) (N := 8) (n := 8) ht (fun w h => lwG_tbl (inX7 w h)) (ht _ kz_c8)
  | 9, hq => by cases hq; exact u_known (C := RX8) (T := TX8) (N := 10) (n := 10) ht (fun w h => lwG_tbl (inX8 w h)) (ht _ kz_c9)
  | 10, hq => by cases hq; exact u_known (C := RX9) (T := TX9) (N := 6) (n := 6) ht (fun w h => lwG_tbl (inX9 w h)) (ht _ kz_c10)
  | 11, hq => by cases hq; exact u_known (C := RX10) (T := TX10) (N := 6) (n := 6) ht (fun w h => lwG_tbl (inX10 w h)) (ht _ kz_c11)
  | 12, hq => by cases hq; exact u_known (C := RX11) (T := TX11) (N := 6) (n := 6) ht (fun w h => lwG_tbl (inX11 w h)) (ht _ kz_c12)
  | 13, hq => by cases hq; exact u_known (C := RX12) (T := TX12) (N := 13) (n := 13) ht (fun w h => lwG_tbl (inX12 w h)) (ht _ kz_c13)
  | 14, hq => by cases hq; exact u_known (C := RX13) (T := TX13) (N := 21) (n := 21) ht (fun w h => lwG_tbl (inX13 w h)) (ht _ kz_c14)
  | k + 15, hq => by simp [vwCl] at hq
theorem ac_prim {ty : FieldType} (h : (Cond.arrayClass ty).before args s = true) (hp : ∀ c, s.vm.findClass ("[" ++ ty.toString) = some c → va_RA s c ty) : ∃ c : ClassId, ArrOfT s c ty ∧ va_RA s c ty := by
  obtain ⟨c, k, comp, h1, h2, h3⟩ := Cond.arrayClass_spec h
  exact ⟨c, fun n z => ⟨fun k h => (by cases h), k, h2, comp, h3⟩, hp c h1⟩
theorem ac_obj {C : String} (h : (Cond.arrayOver (.object C)).before args s = true) : ∃ c : ClassId, ArrOfT s c (.object C) ∧ va_RA s c (.object C) := by
  obtain ⟨comp, c, k, h1, -, h2, h3, h4⟩ := Cond.arrayOver_spec h
  exact ⟨c, fun n z => ⟨fun k h => (by cases h), k, h2, comp, h3⟩, k, comp, h2, h3, h1, h4⟩
theorem kinds_all (ht : tabT args s) : ∃ (cy : Nat → ClassId) (G : va_G), va_K G vwCl (tyL cy) s := by
  have h0 : ∀ k : Nat, ∃ p : ClassId × (Nat → Nat), ∀ q : vw_C, vwCl[k]? = some q → u_Kn s q.1 q.2.1 q.2.2 p.1 p.2 := by
    intro k
    cases hk : vwCl[k]? with
    | none => exact ⟨(0, fun _ => 0), fun q h => by cases h⟩
    | some r =>
      obtain ⟨c, i, h⟩ := known_all ht k r hk
      exact ⟨(c, i), fun q hq => by cases hq; exact h⟩
  obtain ⟨f, hf⟩ := Classical.axiomOfChoice h0
  obtain ⟨c0, x0⟩ := ac_prim (ty := .int) (ht _ (lwG_tbl kz_a0)) (fun _ h => h)
  obtain ⟨c1, x1⟩ := ac_prim (ty := .boolean) (ht _ (lwG_tbl kz_a1)) (fun _ h => h)
  obtain ⟨c2, x2⟩ := ac_prim (ty := .char) (ht _ (lwG_tbl kz_a2)) (fun _ h => h)
  obtain ⟨c7, x7⟩ := ac_prim (ty := .byte) (ht _ (lwG_tbl kz_a3)) (fun _ h => h)
  obtain ⟨c8, x8⟩ := ac_prim (ty := .long) (ht _ (lwG_tbl kz_a4)) (fun _ h => h)
  obtain ⟨c9, x9⟩ := ac_prim (ty := .double) (ht _ (lwG_tbl kz_a5)) (fun _ h => h)
  obtain ⟨c3, x3⟩ := ac_obj (ht _ (of_mapT t_M1 "RingTransit$Line" (by decide +kernel)))
  obtain ⟨c4, x4⟩ := ac_obj (ht _ (of_mapT t_M1 "RingTransit$Ticket" (by decide +kernel)))
  obtain ⟨c5, x5⟩ := ac_obj (ht _ (of_mapT t_M1 "RingTransit$Network" (by decide +kernel)))
  obtain ⟨c6, x6⟩ := ac_obj (ht _ (of_mapT t_M1 "RingTransit$Command" (by decide +kernel)))
  refine ⟨fun k => match k with | 0 => c0 | 1 => c1 | 2 => c2 | 3 => c3 | 4 => c4 | 5 => c5 | 6 => c6 | 7 => c7 | 8 => c8 | _ => c9, (fun k => (f k).1, fun k => (f k).2), fun k q hq => hf k q hq, fun k q hk => ?_⟩
  match k, hk with
  | 0, hk => cases hk; exact x0
  | 1, hk => cases hk; exact x1
  | 2, hk => cases hk; exact x2
  | 3, hk => cases hk; exact x3
  | 4, hk => cases hk; exact x4
  | 5, hk => cases hk; exact x5
  | 6, hk => cases hk; exact x6
  | 7, hk => cases hk; exact x7
  | 8, hk => cases hk; exact x8
  | 9, hk => cases hk; exact x9
  | k + 10, hk => simp [tyL, tyc] at hk
end KN
