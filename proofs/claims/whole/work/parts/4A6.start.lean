/-! the static things hold at the start -/
def tabT (args : Array Value) (s : State) : Prop := ∀ w ∈ lw_tbl, w.before args s = true
theorem of_mapT {T : Type} {l : List T} {f : T → Cond} (h : ∀ w ∈ l.map f, w ∈ lw_tbl) (x : T) (hx : x ∈ l) : f x ∈ lw_tbl := h _ (List.mem_map.mpr ⟨x, hx, rfl⟩)
theorem of_mapN {T : Type} {l : List T} {f : T → Cond} {args : Array Value} {s : State} (h : ∀ w ∈ l.map f, w.before args s = true) (x : T) (hx : x ∈ l) : (f x).before args s = true := h _ (List.mem_map.mpr ⟨x, hx, rfl⟩)
theorem nkL_ot : ∀ w ∈ nkL, w.onTables = true := by decide +kernel
theorem forms_ne : ∀ i, i < 14 → ∀ j, j < 14 → i ≠ j → Int32.ofNat (fLen.getD i 0) ≠ Int32.ofNat (fLen.getD j 0) ∨ ∃ k, k < fLen.getD i 0 ∧ (k < fLen.getD j 0 ∧ (fByt.getD i []).getD k 0 ≠ (fByt.getD j []).getD k 0) := by decide +kernel
theorem forms_sm : ∀ i, i < 14 → fLen.getD i 0 < 2 ^ 31 := by decide +kernel
theorem any_pr {L : List (Nat × Nat)} {i j : Nat} (h : (L.any fun q => Nat.beq q.1 i && Nat.beq q.2 j) = true) : (i, j) ∈ L := by
  obtain ⟨q, hq, he⟩ := List.any_eq_true.mp h
  rw [Bool.and_eq_true] at he
  have e1 := Nat.eq_of_beq_eq_true he.1
  have e2 := Nat.eq_of_beq_eq_true he.2
  rw [← e1, ← e2]
  exact hq
theorem any_or {L : List (Nat × Nat)} {i j : Nat} (h : ((L.any fun q => Nat.beq q.1 i && Nat.beq q.2 j) || (L.any fun q => Nat.beq q.1 j && Nat.beq q.2 i)) = true) : (i, j) ∈ L ∨ (j, i) ∈ L := by
  rw [Bool.or_eq_true] at h
  exact h.imp any_pr any_pr
def pFl : List (Nat × Nat) := [(0, 1), (2, 0), (0, 3), (0, 4), (0, 5), (2, 1), (3, 1), (1, 4), (1, 5), (2, 3), (2, 4), (2, 5), (3, 4), (3, 5), (4, 5)]
theorem pF_all : ∀ i, i < 6 → ∀ j, j < 6 → i ≠ j → ((pFl.any fun q => Nat.beq q.1 i && Nat.beq q.2 j) || (pFl.any fun q => Nat.beq q.1 j && Nat.beq q.2 i)) = true := by decide +kernel
def pCl : List (Nat × Nat) := [(0, 1), (0, 2), (0, 3), (0, 4), (0, 5), (6, 0), (0, 7), (0, 8), (0, 9), (0, 10), (0, 11), (0, 12), (0, 13), (1, 2), (1, 3), (1, 4), (1, 5), (6, 1), (1, 7), (1, 8), (1, 9), (1, 10), (1, 11), (1, 12), (1, 13), (2, 3), (2, 4), (2, 5), (6, 2), (2, 7), (2, 8), (2, 9), (2, 10), (2, 11), (2, 12), (2, 13), (3, 4), (3, 5), (6, 3), (3, 7), (3, 8), (3, 9), (3, 10), (3, 11), (3, 12), (3, 13), (4, 5), (6, 4), (4, 7), (4, 8), (4, 9), (4, 10), (4, 11), (4, 12), (4, 13), (6, 5), (5, 7), (5, 8), (5, 9), (5, 10), (5, 11), (5, 12), (5, 13), (6, 7), (6, 8), (6, 9), (6, 10), (6, 11), (6, 12), (6, 13), (7, 8), (7, 9), (7, 10), (7, 11), (7, 12), (7, 13), (8, 9), (8, 10), (8, 11), (8, 12), (8, 13), (9, 10), (9, 11), (9, 12), (9, 13), (10, 11), (10, 12), (10, 13), (11, 12), (11, 13), (12, 13)]
theorem pC_all : ∀ i, i < 14 → ∀ j, j < 14 → i ≠ j → ((pCl.any fun q => Nat.beq q.1 i && Nat.beq q.2 j) || (pCl.any fun q => Nat.beq q.1 j && Nat.beq q.2 i)) = true := by decide +kernel
theorem one_OF {o n d : String} {t : Nat} {v w : Value} {A : Nat → Prop} {U : State} {H : Heap} (h1 : va_OF o n d v t A U H) (h2 : va_OF o n d w t A U H) : v = w := by
  obtain ⟨cf, k, i, f, cell, e1, -, e3, -, e5, -⟩ := h1
  obtain ⟨cf', k', i', f', cell', g1, -, g3, -, g5, -⟩ := h2
  cases Option.some.inj (e1.symm.trans g1)
  cases Option.some.inj (e3.symm.trans g3)
  exact Option.some.inj (e5.symm.trans g5)
def mkE (e0 e1 : Nat → Nat) (t0 t1 t2 : Nat) (e4 e5 : Nat → Nat) (d0 d1 : Nat) : Nat → Nat → Nat := fun k => match k with
  | 0 => e0
  | 1 => e1
  | 2 => (fun i => match i with | 0 => t0 | 1 => t1 | _ => t2)
  | 4 => e4
  | 5 => e5
  | _ => (fun i => match i with | 0 => d0 | _ => d1)
section ST
variable {args : Array Value} {s : State} {A : Nat → Prop}
theorem se_at (hn : narC.before args s = true) {i j : Nat} (hi : i < 14) (hj : j < fLen.getD i 0) : (Cond.eq (.elem (.field (fmT i) "java/lang/String" "value" "[B") (.int (Int32.ofNat j))) (.int ((fByt.getD i []).getD j 0))).before args s = true :=
  n_Se hn _ (List.mem_flatMap.mpr ⟨i, List.mem_range.mpr hi, List.mem_map.mpr ⟨j, List.mem_range.mpr hj, rfl⟩⟩)
theorem forms_of (hn : narC.before args s = true) (hA : ∀ a : Nat, a < s.heap.size → ¬ A a) : ∃ e4 e5 : Nat → Nat, vk_S 14 fLen fByt e4 e5 A s s.heap ∧ ∀ i : Nat, i < 14 → (fmT i).eval args s none [] s = some (.ref (e4 i)) := by
  have h0 : ∀ i : Nat, ∃ q : Nat × Nat, i < 14 → (fmT i).eval args s none [] s = some (.ref q.1) ∧ va_O "java/lang/String" q.1 A s s.heap ∧ va_OF "java/lang/String" "coder" "B" (.int 0) q.1 A s s.heap ∧ va_OF "java/lang/String" "value" "[B" (.ref q.2) q.1 A s s.heap ∧ va_T .byte q.2 (fLen.getD i 0) (fun j => .int ((fByt.getD i []).getD j 0)) A s s.heap := by
    intro i
    by_cases hi : i < 14
    · have hi' := List.mem_range.mpr hi
      obtain ⟨a, c, cA, kA, q1, q2, q3, q4, q5, q6, -⟩ := Cond.exactly_spec (args := args) (first := s) (o := none) (s := s) (idx := []) (t := fmT i) (cls := "java/lang/String") (of_mapN (n_Sx hn) i hi')
      obtain ⟨t, ht, hT⟩ := va_Tof (tm := .field (fmT i) "java/lang/String" "value" "[B") (N := fLen.getD i 0) (f := fun j => .int ((fByt.getD i []).getD j 0)) (A := A) (forms_sm i hi) (of_mapN (n_Sa hn) i hi') (va_eqt (of_mapN (n_Sl hn) i hi')) (fun j hj => va_eqt (se_at hn hi hj)) hA
      exact ⟨(a, t), fun _ => ⟨q1, ⟨cA, q3, q5, by rw [q6]; exact q2, hA a (Array.getElem?_eq_some_iff.mp q3).1⟩, vk_OFof q1 (va_eqt (of_mapN (n_Sc hn) i hi')) hA, vk_OFof q1 ht hA, hT⟩⟩
    · exact ⟨(0, 0), fun h => absurd h hi⟩
  obtain ⟨ad, had⟩ := Classical.axiomOfChoice h0
  refine ⟨fun i => (ad i).1, fun i => (ad i).2, ⟨fun i hi => (had i hi).2, fun i j hi hj e => ?_⟩, fun i hi => (had i hi).1⟩
  by_cases hij : i = j
  · exact hij
  · exfalso
    obtain ⟨-, -, -, v1, T1⟩ := had i hi
    obtain ⟨-, -, -, v2, T2⟩ := had j hj
    have e' : (ad i).1 = (ad j).1 := e
    rw [e'] at v1
    have ev := one_OF v1 v2
    injection ev with ev
    rw [ev] at T1
    obtain ⟨cell, a1, -, -, -, a5, a6, -⟩ := T1
    obtain ⟨cell', b1, -, -, -, b5, b6, -⟩ := T2
    cases Option.some.inj (a1.symm.trans b1)
    rcases forms_ne i hi j hj hij with h | ⟨k, hk1, hk2, h⟩
    · exact h (a5.symm.trans b5)
    · have e2 := Option.some.inj ((a6 k hk1).symm.trans (b6 k hk2))
      injection e2 with e2
      exact h e2
theorem st_ok (hn : narC.before args s = true) (ht : tabT args s) (hA : ∀ a : Nat, a < s.heap.size → ¬ A a) {q : String × String × String × FieldType × Nat} (hq : q ∈ stL) (hN : q.2.2.2.2 < 2 ^ 31) {f : Nat → Value} (hel : ∀ j, j < q.2.2.2.2 → (Term.elem (.static q.1 q.2.1 q.2.2.1) (.int (Int32.ofNat j))).eval args s none [] s = some (f j)) : ∃ t : Nat, va_Z q.1 q.2.1 q.2.2.1 (.ref t) A s s.heap ∧ va_T q.2.2.2.1 t q.2.2.2.2 f A s s.heap := by
  obtain ⟨t, e1, e2⟩ := va_Tof hN (of_mapN (n_S3 hn) q hq) (va_eqv (of_mapN (n_S4 hn) q hq) rfl) hel hA
  exact ⟨t, va_Zof (ht _ (of_mapT t_S1 q hq)) (ht _ (of_mapT t_S2 q hq)) e1 hA, e2⟩
theorem ZZ_start (hn : narC.before args s = true) (ht : tabT args s) (hA : ∀ a : Nat, a < s.heap.size → ¬ A a) : ∃ (E : Nat → Nat → Nat) (sa : Nat → Nat), ZZ E sa A s s.heap := by
  obtain ⟨e0, h0⟩ := va_Enof (A := A) (E := "RingTransit$Fault") (d := "LRingTransit$Fault;") (nm := nmF) (F := fdF) (fun i hi => ht _ (of_mapT t_Fl i (List.mem_range.mpr hi))) (ht _ (t_in _ (List.mem_of_getElem? (i := 0) rfl))) (fun i hi => of_mapN (n_Fx hn) i (List.mem_range.mpr hi)) (fun q hq i hi => by
    rw [List.mem_singleton.mp hq]
    exact of_mapN (n_Ff hn) i (List.mem_range.mpr hi)) (fun i j hi hj hij => (any_or (pF_all i hi j hj hij)).imp (fun h => of_mapN (n_Fd hn) (i, j) h) (fun h => of_mapN (n_Fd hn) (j, i) h)) hA
  obtain ⟨e1, h1, h1v⟩ := va_Enof2 (A := A) (E := "RingTransit$Command") (d := "LRingTransit$Command;") (nm := nmC) (F := fdC) (fun i hi => ht _ (of_mapT t_Cl i (List.mem_range.mpr hi))) (ht _ (t_in _ (List.mem_of_getElem? (i := 1) rfl))) (fun i hi => of_mapN (n_Cx hn) i (List.mem_range.mpr hi)) (fun q hq i hi => by
    rw [List.mem_singleton.mp hq]
    exact of_mapN (n_Cf hn) i (List.mem_range.mpr hi)) (fun i j hi hj hij => (any_or (pC_all i hi j hj hij)).imp (fun h => of_mapN (n_Cd hn) (i, j) h) (fun h => of_mapN (n_Cd hn) (j, i) h)) hA
  obtain ⟨e4, e5, h4, h4v⟩ := forms_of (A := A) hn hA
  obtain ⟨t0, g0, g0'⟩ := st_ok (q := ("RingTransit$1", "$SwitchMap$RingTransit$Fault", "[I", .int, 6)) (f := fun j => vi (swfL.getD j 0)) hn ht hA (List.mem_of_getElem? (i := 0) rfl) (by decide) (fun j hj => va_eqv (of_mapN (n_T0 hn) j (List.mem_range.mpr hj)) rfl)
  obtain ⟨t1, g1, g1'⟩ := st_ok (q := ("RingTransit$1", "$SwitchMap$RingTransit$Command", "[I", .int, 14)) (f := fun j => vi (swcL.getD j 0)) hn ht hA (List.mem_of_getElem? (i := 1) rfl) (by decide) (fun j hj => va_eqv (of_mapN (n_T1 hn) j (List.mem_range.mpr hj)) rfl)
  obtain ⟨t2, g2, g2'⟩ := st_ok (q := ("RingTransit$Script", "COMMANDS", "[LRingTransit$Command;", .object "RingTransit$Command", 14)) (f := fun j => .ref (e1 j)) hn ht hA (List.mem_of_getElem? (i := 2) rfl) (by decide) (fun j hj => va_eqv (of_mapN (n_Ce hn) j (List.mem_range.mpr hj)) (h1v j hj))
  obtain ⟨d0, g3, g3'⟩ := st_ok (q := ("java/lang/Integer", "DigitOnes", "[B", .byte, 100)) (f := fun j => vi (48 + ((j % 10 : Nat) : Int))) hn ht hA (List.mem_of_getElem? (i := 3) rfl) (by decide) (fun j hj => va_eqv (of_mapN (n_D0 hn) j (List.mem_range.mpr hj)) rfl)
  obtain ⟨d1, g4, g4'⟩ := st_ok (q := ("java/lang/Integer", "DigitTens", "[B", .byte, 100)) (f := fun j => vi (48 + ((j / 10 : Nat) : Int))) hn ht hA (List.mem_of_getElem? (i := 4) rfl) (by decide) (fun j hj => va_eqv (of_mapN (n_D1 hn) j (List.mem_range.mpr hj)) rfl)
  have hs : ∀ k : Nat, ∃ a : Nat, ∀ tx, (k, tx) ∈ strL → (Term.string RX12 k).eval args s none [] s = some (.ref a) := by
    intro k
    by_cases hk : ∃ tx, (k, tx) ∈ strL
    · obtain ⟨tx, hk⟩ := hk
      obtain ⟨a, c, cell, kk, q1, -⟩ := Cond.exactly_spec (args := args) (first := s) (o := none) (s := s) (idx := []) (t := .string RX12 k) (cls := "java/lang/String") (of_mapN (n_R hn) (k, tx) hk)
      exact ⟨a, fun _ _ => q1⟩
    · exact ⟨0, fun tx h => absurd ⟨tx, h⟩ hk⟩
  obtain ⟨sa, hsa⟩ := Classical.axiomOfChoice hs
  have r0 := n_rf hn _ (List.mem_of_getElem? (i := 0) rfl)
  have r1 := n_rf hn _ (List.mem_of_getElem? (i := 1) rfl)
  have r2 := n_rf hn _ (List.mem_of_getElem? (i := 2) rfl)
  have r3 := n_rf hn _ (List.mem_of_getElem? (i := 3) rfl)
  have p0 := ht _ (t_pr _ (List.mem_of_getElem? (i := 0) rfl))
  have p1 := ht _ (t_pr _ (List.mem_of_getElem? (i := 1) rfl))
  have p2 := ht _ (t_pr _ (List.mem_of_getElem? (i := 2) rfl))
  have p3 := ht _ (t_pr _ (List.mem_of_getElem? (i := 3) rfl))
  have p4 := ht _ (t_pr _ (List.mem_of_getElem? (i := 4) rfl))
  have l0 := ht _ (t_ls _ (List.mem_of_getElem? (i := 0) rfl))
  have l1 := ht _ (t_ls _ (List.mem_of_getElem? (i := 1) rfl))
  have l2 := ht _ (t_ls _ (List.mem_of_getElem? (i := 2) rfl))
  have l3 := ht _ (t_ls _ (List.mem_of_getElem? (i := 3) rfl))
  have i2 := ht _ (t_in _ (List.mem_of_getElem? (i := 2) rfl))
  have i3 := ht _ (t_in _ (List.mem_of_getElem? (i := 3) rfl))
  have i4 := ht _ (t_in _ (List.mem_of_getElem? (i := 4) rfl))
  obtain ⟨E, hE⟩ : ∃ E, E = mkE e0 e1 t0 t1 t2 e4 e5 d0 d1 := ⟨_, rfl⟩
  have E0 : E 0 = e0 := by rw [hE]; rfl
  have E1 : E 1 = e1 := by rw [hE]; rfl
  have E20 : E 2 0 = t0 := by rw [hE]; rfl
  have E21 : E 2 1 = t1 := by rw [hE]; rfl
  have E22 : E 2 2 = t2 := by rw [hE]; rfl
  have E4 : E 4 = e4 := by rw [hE]; rfl
  have E5 : E 5 = e5 := by rw [hE]; rfl
  have E60 : E 6 0 = d0 := by rw [hE]; rfl
  have E61 : E 6 1 = d1 := by rw [hE]; rfl
  have aF : zF E A s s.heap := by unfold zF; rw [E0]; exact h0
  have aX : zX A s s.heap := ⟨vx_Zqof l2 i4 r2 hA, vx_Zqof l3 i4 r3 hA⟩
  have aR : zR sa A s s.heap := fun q hq => vk_R.of (A := args) (ht _ (of_mapT t_R q hq)) (hsa q.1 q.2 hq)
  have aC : zC E A s s.heap := by unfold zC; rw [E1]; exact h1
  have aT : zT E A s s.heap := by unfold zT; rw [E20, E21]; exact ⟨⟨g0, g0'⟩, g1, g1'⟩
  have aN : zN A s s.heap := fun w hw => va_Nw.of (nwL_ot w hw) (ht _ (t_N w hw))
  have aS : zS E A s s.heap := by
    unfold zS
    rw [E4, E5, E22, E1]
    exact ⟨h4, va_Zof l0 i2 (va_eqv r0 rfl) hA, va_Zqof l1 i3 r1 hA, ⟨g2, g2'⟩, fun i hi => vk_OFof (h1v i hi) (va_eqv (of_mapN (n_Cs hn) i (List.mem_range.mpr hi)) (h4v i hi)) hA⟩
  have aE : zE A s s.heap := fun q hq => va_Nc.of (of_mapN (n_E hn) q hq)
  have aP : zP A s s.heap := ⟨va_Nw.of rfl (sel_priv (z := ⟨"java/lang/AbstractStringBuilder", "isLatin1", "()Z"⟩) (by decide +kernel) rfl p0 p1 p2), va_Nw.of rfl (sel_priv (z := ⟨"java/lang/AbstractStringBuilder", "isLatin1", "()Z"⟩) (by decide +kernel) rfl p0 p3 p4)⟩
  have aD : zD E A s s.heap := by unfold zD; rw [E60, E61]; exact ⟨⟨g3, g3'⟩, g4, g4'⟩
  have aM : zM A s s.heap := ⟨fun C hC => va_AO.of (A := args) (ht _ (of_mapT t_M1 C hC)), fun w hw => va_Nw.of (nkL_ot w hw) (ht _ (t_M2 w hw))⟩
  exact ⟨E, sa, And.intro aF (And.intro aX (And.intro aR (And.intro aC (And.intro aT (And.intro aN (And.intro aS (And.intro aE (And.intro aP (And.intro aD aM)))))))))⟩
end ST
