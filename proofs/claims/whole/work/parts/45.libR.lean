/-! renderLine, renderTicket: o.2 is the text -/
section CY
variable {O : Type} {Z : vZ} {X : vjX} {kp : O → Prop} {cc : ByteArray} {own : String} {ret : Option FieldType} {Rm : Room} {a b pc : Nat} {L L' : List (Nat × Value)} {st : List Value} {σ : Sm} {cy : Nat → ClassId} {ad : Nat → Nat} {E : Nat → Nat → Nat} {G : va_G} {A : Nat → Prop} {nL : Nat} {Q : State → Prop} {rr : Option O}
variable {l : Launch} {y : MethodName} {ccy : ByteArray} {maxL : Nat} {rety : Option FieldType} {rm : Room} {idx n : Nat} {av : List Value}
abbrev Sy : Type := So Sm × List Int
def CyI (Z : vZ) (l : Launch) (y : MethodName) (cc : ByteArray) (maxL : Nat) (ret : Option FieldType) (rm : Room) (cy : Nat → ClassId) (ad : Nat → Nat) (E : Nat → Nat → Nat) (G : va_G) (av : List Value) (σ : Sm) (o : Sy) : Prop :=
  ∀ sz : Nat, vx_Met l y (Cond.code y cc maxL ret :: lwG) rm (va_Pc av (preZ Z (wlc cy ad E) G (tyc cy) sz σ)) (va_Qi (fun (r : Int32) (τ : Sm) => o.1.2.1 = 0 ∧ r = Int32.ofInt o.1.2.2 ∧ (rng o.1.2.2 ∧ nar ret o.1.2.2) ∧ Bd o.1.1 o.2 τ ∧ wfc τ) (fun τ t => va_P G vwCl (wlc cy ad E τ) t.heap ∧ va_D (va_A (wlc cy ad E σ) sz) (wlc cy ad E τ)) (va_A (wlc cy ad E σ) sz)) (vx_X (fun _ : Unit => o.1.2.1 ≠ 0 ∧ wfc o.1.1) (fun E9 _ t => E9 = xn o.1.2.1 ∧ va_P G vwCl (wlc cy ad E o.1.1) t.heap ∧ va_D (va_A (wlc cy ad E σ) sz) (wlc cy ad E o.1.1)) (va_A (wlc cy ad E σ) sz)) rm.cells rm.slots (va_A (wlc cy ad E σ) sz)
def EndYI (X : vjX) (Y : vjY Sm) (cc : ByteArray) (Rm : Room) (ty : FieldType) (o : Sy) : Prop := o.1.2.1 = 0 → ∀ (pc : Nat) (L : List (Nat × Value)) (τ : Sm), decode cc pc = .ok (.ireturn, 1) → rng o.1.2.2 → narrow ty (vi o.1.2.2) = vi o.1.2.2 → Bd o.1.1 o.2 τ → J X Y Rm.cells Rm.slots pc L [vi o.1.2.2] τ
theorem cyI_of (zk : Zok Z) (zx : ZX Z) (hst : l.stackTraces = false) {ty : FieldType} (hy : plainName y.cls = true) (hf : (lg_sl av).length ≤ maxL) (hw : wfc σ) (o : Sy) {r : Option Sy} (hr : r = some o)
    (body : ∀ (X : vjX) (A : Nat → Prop) (Q : State → Prop), Zx Z X (Yc cy ad E G A maxL Q) → X.2.1 = l → Cx X (Yc cy ad E G A maxL Q) cc y.cls (some ty) rm (tyc cy) → T X (Yc cy ad E G A maxL Q) (fun w => EndYI X (Yc cy ad E G A maxL Q) cc rm ty w ∧ EndX X (Yc cy ad E G A maxL Q) cc y.cls rm w.1) 0 0 0 (lv_args 0 av) [] σ r) :
    CyI Z l y cc maxL (some ty) rm cy ad E G av σ o := by
  intro sz
  refine vx_ofW (cc := cc) (maxL := maxL) (ret := some ty) hy rfl ?_
  intro p e s m args below meth c s₁ B hml ht hv
  obtain ⟨rfl, ⟨hsz, hP, hK, hD0⟩, hZ⟩ := hv
  have hts := atoms_spec (ws := Cond.code y cc maxL (some ty) :: lwG) B.pre
  subst hsz
  have hD := hD0.self (sz := s.heap.size)
  have hl := lv_entry av (n := maxL) hf
  rw [lg_entry_eq]
  have C : ∀ Q : State → Prop, Cx (p, l, e, (headSpec (Cond.code y cc maxL (some ty) :: lwG) rm).room, s, m, av.toArray, below, meth, c) (Yc cy ad E G (va_A (wlc cy ad E σ) s.heap.size) maxL Q) cc y.cls (some ty) rm (tyc cy) := fun Q => ⟨B.exec, B.bytes, hml, findClass_of_methodNamed B.named, fun w h => hts w (List.mem_cons_of_mem _ h), hK, fun q h => Or.inr h, B.notSynchronized, rfl, B.returns⟩
  refine body (p, l, e, (headSpec (Cond.code y cc maxL (some ty) :: lwG) rm).room, s, m, av.toArray, below, meth, c) (va_A (wlc cy ad E σ) s.heap.size) _ hZ rfl (C _) o hr ⟨?_, endX_of (y := y) hst zx hZ (C _) ht⟩ s.heap [] _ hP hD va_S.rf hw hl
  intro hx0 pc L τ d hrg hn hB H locs ls hP hD hS hw hl
  exact vx_ret (W.zret (v := Int32.ofInt o.1.2.2) B.exec B.bytes B.returns hn (fun t ht hW => ⟨⟨Int32.ofInt o.1.2.2, τ, rfl, ⟨hx0, rfl, ⟨hrg, fun ty' e' => by cases e'; exact hn⟩, hB, hw⟩, by rw [ht]; exact hP, hD⟩, hS.F ht⟩) hS.2.2 d B.notSynchronized)
theorem T_yiret {ty : FieldType} {v : Int} (w : O) (o : Sy) (ho : o.1.2.1 = 0 ∧ o.1.2.2 = v) (hB : Bd o.1.1 o.2 σ) (hk : kp w → EndYI X (Yc cy ad E G A nL Q) cc Rm ty o) (hr : rng v) (hn : narrow ty (vi v) = vi v) (hc : a ≤ Rm.cells ∧ b ≤ Rm.slots) (d : decode cc pc = .ok (.ireturn, 1)) : T X (Yc cy ad E G A nL Q) kp a b pc L [vi v] σ (some w) := fun w2 h hko => by
  cases h
  obtain ⟨h0, rfl⟩ := ho
  exact fun H locs ls hP hD hS hw hl => W.widen hc.1 hc.2 (hk hko h0 pc L σ d hr hn hB H locs ls hP hD hS hw hl)
theorem T_wide {a2 b2 : Nat} (h : a ≤ a2 ∧ b ≤ b2) (K : T X (Yc cy ad E G A nL Q) kp a2 b2 pc L st σ rr) : T X (Yc cy ad E G A nL Q) kp a b pc L st σ rr := fun o h2 hk H locs ls hP hD hS hw hl => W.widen h.1 h.2 (K o h2 hk H locs ls hP hD hS hw hl)
/-- the same calls; what was answered stays known -/
theorem T_cxSvF (zk : Zok Z) (hZ : Zx Z X (Yc cy ad E G A nL Q)) (C : Cx X (Yc cy ad E G A nL Q) cc own ret Rm (tyc cy)) (As rest : List Value) {f : Option (So Sm)} {k : So Sm → Option O} {g : So Sm → O} (ct : ∀ o, f = some o → wfc σ → CxV Z X.2.1 y ccy maxL rm (wlc cy ad E) wfc G (tyc cy) As σ o) (hlink : Cond.methodLink own idx y ∈ lwG) (hm : cmS y ccy maxL none n) (hn : As.length = n) (hst : st = As.reverse ++ rest) (hcat : (rest.map fun v => v.category).sum ≤ 8) (hR : rmFit rm Rm maxL a b) {a' b' : Nat} (hab : a + rm.cells = a' ∧ b + rm.slots = b')
    (d : decode cc pc = .ok (.invokestatic idx, 3)) (hx : ∀ o, kp (g o) → o.2.1 ≠ 0 → XOK X (Yc cy ad E G A nL Q) Rm o.2.1 o.1) (K : ∀ o : So Sm, f = some o → T X (Yc cy ad E G A nL Q) kp a' b' (pc + 3) L rest o.1 (k o)) : T X (Yc cy ad E G A nL Q) kp a b pc L st σ (f.bind fun o => if o.2.1 = 0 then k o else some (g o)) := fun w h hk => by
  obtain ⟨o, ho, h2⟩ := Option.bind_eq_some_iff.mp h
  refine J_cxSv zk hZ C As rest o (ct o ho) hlink hm hn hst hcat hR hab d (fun h0 => ?_) (fun h0 => ?_)
  · rw [if_neg h0] at h2; cases h2; exact hx o hk h0
  · rw [if_pos h0] at h2; exact K o ho w h2 hk
theorem T_cxViF (zk : Zok Z) (hZ : Zx Z X (Yc cy ad E G A nL Q)) (C : Cx X (Yc cy ad E G A nL Q) cc own ret Rm (tyc cy)) (As rest : List Value) {q : Nat} {f : Option (So Sm)} {k : So Sm → Option O} {g : So Sm → O} (ct : ∀ o, f = some o → wfc σ → CxI Z X.2.1 y ccy maxL rety rm (wlc cy ad E) wfc G (tyc cy) (.ref q :: As) σ o) (hlink : Cond.methodLink own idx y ∈ lwG) (hm : cmV y ccy maxL rety n) (hrc : va_Rc (wlc cy ad E σ) q y.cls) (hn : As.length = n) (hst : st = As.reverse ++ .ref q :: rest) (hcat : (rest.map fun v => v.category).sum ≤ 8) (hR : rmFit rm Rm maxL a b) {a' b' : Nat} (hab : a + rm.cells = a' ∧ b + rm.slots = b')
    (d : decode cc pc = .ok (.invokevirtual idx, 3)) (hx : ∀ o, kp (g o) → o.2.1 ≠ 0 → XOK X (Yc cy ad E G A nL Q) Rm o.2.1 o.1) (K : ∀ o : So Sm, f = some o → rng o.2.2 ∧ nar rety o.2.2 → T X (Yc cy ad E G A nL Q) kp a' b' (pc + 3) L (vi o.2.2 :: rest) o.1 (k o)) : T X (Yc cy ad E G A nL Q) kp a b pc L st σ (f.bind fun o => if o.2.1 = 0 then k o else some (g o)) := fun w h hk => by
  obtain ⟨o, ho, h2⟩ := Option.bind_eq_some_iff.mp h
  refine J_cxVi zk hZ C As rest o (ct o ho) hlink hm hrc hn hst hcat hR hab d (fun h0 => ?_) (fun h0 hr => ?_)
  · rw [if_neg h0] at h2; cases h2; exact hx o hk h0
  · rw [if_pos h0] at h2; exact K o ho hr w h2 hk
end CY
theorem refuse_st {σ : Sm} {x : Int} {o : So Sm} (h : f_X12_refuse σ x = some o) : o.1 = σ := by
  unfold f_X12_refuse at h
  repeat' split at h
  all_goals (cases h; rfl)
theorem known_st {N : Nat} {σ : Sm} {x : Int} {o : So Sm} (h : f_X12_knownTicket N σ x = some o) : o.1 = σ := by
  unfold f_X12_knownTicket at h
  obtain ⟨v, -, h2⟩ := Option.bind_eq_some_iff.mp h
  split at h2
  all_goals (cases h2; rfl)
/-- the stops of a line, one behind the other -/
def txR (f : Nat → Int) : Nat → List Int
  | 0 => []
  | k + 1 => txR f k ++ (if k = 0 then [] else [62]) ++ dg (f k).toNat
theorem txR_mono (f : Nat → Int) {k n : Nat} (h : k ≤ n) : (txR f k).length ≤ (txR f n).length := by
  induction n with
  | zero => have : k = 0 := by omega
            subst this; exact Nat.le_refl _
  | succ n ih =>
    by_cases e : k = n + 1
    · subst e; exact Nat.le_refl _
    · refine Nat.le_trans (ih (by omega)) ?_
      rw [txR, List.length_append, List.length_append]
      omega
def txL (h o p s : Int) (f : Nat → Int) (n : Nat) (sus : Int) : List Int := [] ++ dg h.toNat ++ [47] ++ dg o.toNat ++ [43] ++ dg p.toNat ++ [120] ++ dg s.toNat ++ [58] ++ txR f n ++ (if sus = 0 then [] else [33])
def txT (i l t a b p : Int) : List Int := [] ++ [35] ++ dg i.toNat ++ [32] ++ dg l.toNat ++ [46] ++ dg t.toNat ++ [32] ++ dg a.toNat ++ [62] ++ dg b.toNat ++ [61] ++ dg p.toNat
def f_X12_renderLine (σ : Sm) (x1 : Int) : Option Sy :=
  (f_X8_lineIndexFault σ 1 x1).bind fun v1 => (f_X12_refuse σ v1).bind fun v2 => if v2.2.1 = 0 then (if 0 ≤ x1 ∧ x1 < 5 then (f_X7_pace σ (1 + 23 + 2 * x1.toNat) (σ 1 1)).bind fun p => (if (0 ≤ σ (1 + 23 + 2 * x1.toNat) 0 ∧ 0 ≤ σ (1 + 23 + 2 * x1.toNat) 1 ∧ 0 ≤ p ∧ 0 ≤ σ (1 + 23 + 2 * x1.toNat) 4 ∧ 0 ≤ σ (1 + 23 + 2 * x1.toNat) 6 ∧ σ (1 + 23 + 2 * x1.toNat) 6 ≤ 6) ∧ (∀ k, k < (σ (1 + 23 + 2 * x1.toNat) 6).toNat → 0 ≤ σ (1 + 23 + 2 * x1.toNat + 1) k) ∧ (txL (σ (1 + 23 + 2 * x1.toNat) 0) (σ (1 + 23 + 2 * x1.toNat) 1) p (σ (1 + 23 + 2 * x1.toNat) 4) (σ (1 + 23 + 2 * x1.toNat + 1)) (σ (1 + 23 + 2 * x1.toNat) 6).toNat (σ (1 + 23 + 2 * x1.toNat) 5)).length ≤ 100 then some ((σ, 0, ((txL (σ (1 + 23 + 2 * x1.toNat) 0) (σ (1 + 23 + 2 * x1.toNat) 1) p (σ (1 + 23 + 2 * x1.toNat) 4) (σ (1 + 23 + 2 * x1.toNat + 1)) (σ (1 + 23 + 2 * x1.toNat) 6).toNat (σ (1 + 23 + 2 * x1.toNat) 5)).length : Int)), txL (σ (1 + 23 + 2 * x1.toNat) 0) (σ (1 + 23 + 2 * x1.toNat) 1) p (σ (1 + 23 + 2 * x1.toNat) 4) (σ (1 + 23 + 2 * x1.toNat + 1)) (σ (1 + 23 + 2 * x1.toNat) 6).toNat (σ (1 + 23 + 2 * x1.toNat) 5)) else none) else none) else some (xw v2, [])
def f_X12_renderTicket (N : Nat) (σ : Sm) (x1 : Int) : Option Sy :=
  (f_X12_knownTicket N σ x1).bind fun v1 => if v1.2.1 = 0 then (if 0 ≤ v1.2.2 ∧ v1.2.2 < 16 then (if (0 ≤ σ (σ 7 v1.2.2.toNat).toNat 0 ∧ 0 ≤ σ (σ 7 v1.2.2.toNat).toNat 1 ∧ 0 ≤ σ (σ 7 v1.2.2.toNat).toNat 2 ∧ 0 ≤ σ (σ 7 v1.2.2.toNat).toNat 3 ∧ 0 ≤ σ (σ 7 v1.2.2.toNat).toNat 4 ∧ 0 ≤ σ (σ 7 v1.2.2.toNat).toNat 5) then some ((σ, 0, ((txT (σ (σ 7 v1.2.2.toNat).toNat 0) (σ (σ 7 v1.2.2.toNat).toNat 1) (σ (σ 7 v1.2.2.toNat).toNat 2) (σ (σ 7 v1.2.2.toNat).toNat 3) (σ (σ 7 v1.2.2.toNat).toNat 4) (σ (σ 7 v1.2.2.toNat).toNat 5)).length : Int)), txT (σ (σ 7 v1.2.2.toNat).toNat 0) (σ (σ 7 v1.2.2.toNat).toNat 1) (σ (σ 7 v1.2.2.toNat).toNat 2) (σ (σ 7 v1.2.2.toNat).toNat 3) (σ (σ 7 v1.2.2.toNat).toNat 4) (σ (σ 7 v1.2.2.toNat).toNat 5)) else none) else none) else some (xw v1, [])
def f_X12_outputAt (σ : Sm) (x1 : Int) : Option (So Sm) :=
  if σ 390 1 = 0 ∧ 0 ≤ σ 390 3 ∧ σ 390 3 ≤ σ 390 9 ∧ σ 390 9 ≤ 202 then (if x1 < 0 then some (σ, 1, 0) else if x1 < σ 390 3 then (if 0 ≤ σ 391 x1.toNat ∧ σ 391 x1.toNat < 128 then some (σ, 0, σ 391 x1.toNat) else none) else some (σ, 1, 0)) else none
theorem pace_off {σ τ : Sm} {r : Nat} {x : Int} (h : τ r = σ r) : f_X7_pace τ r x = f_X7_pace σ r x := by
  unfold f_X7_pace
  rw [h]
