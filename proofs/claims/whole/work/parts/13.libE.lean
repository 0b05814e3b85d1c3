theorem rcc {cy : Nat → ClassId} {ad : Nat → Nat} {E : Nat → Nat → Nat} {σ : Sm} {r K N : Nat} {Cn : String} {Tn : u_T} (hr : kd r = K) (hK : K < 40) (hE : ∀ f : Nat → Int, entK cy ad E K r f = .inr (ciK K, fsK ad K r f)) (hc : vwCl[ciK K]? = some (Cn, Tn, N)) : va_Rc (wlc cy ad E σ) (ad r) Cn := by
  have hl := kd_lt (r := r) (by omega)
  refine ⟨r, ciK K, fsK ad K r (σ r), Tn, N, ?_, hc⟩
  rw [wlc_at (by omega), hr, hE]
section CM
variable {O : Type} {X : vjX} {kp : O → Prop} {cc : ByteArray} {own : String} {ret : Option FieldType} {Rm : Room} {a b pc : Nat} {L L' : List (Nat × Value)} {st : List Value} {σ : Sm} {cy : Nat → ClassId} {ad : Nat → Nat} {E : Nat → Nat → Nat} {G : va_G} {A : Nat → Prop} {nL : Nat} {Q : State → Prop} {rr : Option O}
abbrev Yc (cy : Nat → ClassId) (ad : Nat → Nat) (E : Nat → Nat → Nat) (G : va_G) (A : Nat → Prop) (nL : Nat) (Q : State → Prop) : vjY Sm := (wlc cy ad E, wfc, G, A, nL, Q)
theorem Tc_getr (C : Cx X (Yc cy ad E G A nL Q) cc own ret Rm (tyc cy)) {idx : Nat} (r K k N : Nat) {Cn : String} {Tn : u_T} {v : Value} (hr : kd r = K) (hK : K < 40) (hE : ∀ f : Nat → Int, entK cy ad E K r f = .inr (ciK K, fsK ad K r f)) (hc : vwCl[ciK K]? = some (Cn, Tn, N)) (hin : ∀ w ∈ u_ws Cn Tn N, w ∈ lwG) (hk : k < N) (hv : (fsK ad K r (σ r))[k]? = some v) (hlink : Cond.fieldLink own idx (Tn k).1 (Tn k).2.1 (Tn k).2.2.1 ∈ lwG) (d : decode cc pc = .ok (.getfield idx, 3)) (K0 : T X (Yc cy ad E G A nL Q) kp a b (pc + 3) L (v :: st) σ rr) : T X (Yc cy ad E G A nL Q) kp a b pc L (.ref (ad r) :: st) σ rr := fun o h hk2 H locs ls hP hD hS hw hl => by
  have hl2 := kd_lt (r := r) (by omega)
  exact va_get (ci := ciK K) (q0 := r) C.1 C.2.1 (Ts := lwG) C.2.2.2.2.1 hin C.2.2.2.1 C.2.2.2.2.2.1 hP (by rw [wlc_at (by omega), hr, hE]) hc k hk (C.2.2.2.2.1 _ hlink) (fun _ h9 => h9) hv d (K0 o h hk2 H locs ls hP hD hS hw hl)
theorem Tc_geti (C : Cx X (Yc cy ad E G A nL Q) cc own ret Rm (tyc cy)) {idx : Nat} (r K k N : Nat) {Cn : String} {Tn : u_T} (hr : kd r = K) (hK : K < 40) (hE : ∀ f : Nat → Int, entK cy ad E K r f = .inr (ciK K, fsK ad K r f)) (hc : vwCl[ciK K]? = some (Cn, Tn, N)) (hin : ∀ w ∈ u_ws Cn Tn N, w ∈ lwG) (hk : k < N) (hv : (fsK ad K r (σ r))[k]? = some (vi (σ r k))) (hlink : Cond.fieldLink own idx (Tn k).1 (Tn k).2.1 (Tn k).2.2.1 ∈ lwG) (d : decode cc pc = .ok (.getfield idx, 3)) (K0 : okv K k (σ r k) → T X (Yc cy ad E G A nL Q) kp a b (pc + 3) L (vi (σ r k) :: st) σ rr) : T X (Yc cy ad E G A nL Q) kp a b pc L (.ref (ad r) :: st) σ rr := fun o h hk2 H locs ls hP hD hS hw hl => by
  have h3 := hw r k
  rw [hr] at h3
  exact Tc_getr C r K k N hr hK hE hc hin hk hv hlink d (K0 h3) o h hk2 H locs ls hP hD hS hw hl
theorem Tc_put (C : Cx X (Yc cy ad E G A nL Q) cc own ret Rm (tyc cy)) {idx : Nat} {ty : FieldType} {v : Int} (r K k N : Nat) {Cn : String} {Tn : u_T} (hr : kd r = K) (hK : K < 40) (hE : ∀ f : Nat → Int, entK cy ad E K r f = .inr (ciK K, fsK ad K r f)) (hc : vwCl[ciK K]? = some (Cn, Tn, N)) (hin : ∀ w ∈ u_ws Cn Tn N, w ∈ lwG) (hk : k < N) (hset : ∀ f : Nat → Int, fsK ad K r (upf f k v) = (fsK ad K r f).set k (vi v)) (hov : okv K k v) (ty0 : Nat → FieldType) (hty0 : ∀ k, k < N → parseFieldDescriptor (Tn k).2.2.1 = some (ty0 k)) (hnm : ∀ a, a < N → ∀ b, b < N → a ≠ b → (Tn a).2.1 ≠ (Tn b).2.1) (hfin : (Tn k).2.2.2 = false) (hlen : k < (fsK ad K r (σ r)).length) (hlink : Cond.fieldLink own idx (Tn k).1 (Tn k).2.1 (Tn k).2.2.1 ∈ lwG) (hty : parseFieldDescriptor (Tn k).2.2.1 = some ty) (hn : narrow ty (vi v) = vi v) (hf : fits ty (vi v) = true) (d : decode cc pc = .ok (.putfield idx, 3)) (K0 : T X (Yc cy ad E G A nL Q) kp a b (pc + 3) L st (upm σ r k v) rr) : T X (Yc cy ad E G A nL Q) kp a b pc L (vi v :: .ref (ad r) :: st) σ rr := fun o h hk2 H locs ls hP hD hS hw hl => by
  have hl2 := kd_lt (r := r) (by omega)
  refine va_put (ci := ciK K) (q0 := r) C.1 C.2.1 (Ts := lwG) C.2.2.2.2.1 hin ty0 hty0 hnm C.2.2.2.1 C.2.2.2.2.2.1 hP hD hS (fs := fsK ad K r (σ r)) (by rw [wlc_at (by omega), hr, hE]) hc k hk (C.2.2.2.2.1 _ hlink) (fun _ h9 => h9) hfin hty hn hf hlen d (fun H1 locs1 hP1 hD1 hS1 => ?_)
  have e : (wlc cy ad E σ).set r (ad r, .inr (ciK K, (fsK ad K r (σ r)).set k (vi v))) = wlc cy ad E (upm σ r k v) := by
    rw [← wlc_set hl2 (fun q hq => upm_ne hq), upm_self, hr, hE, hset]
  rw [e] at hP1 hD1
  exact K0 o h hk2 H1 locs1 ls hP1 hD1 hS1 (wfc_up hw (by rw [hr]; exact hov)) hl
theorem wlc_ar {r K : Nat} (hr : kd r = K) (hK : 20 ≤ K ∧ K ≤ 26) : (wlc cy ad E σ)[r]? = some (ad r, arI cy K (σ r)) := by
  have hl2 := kd_lt (r := r) (by omega)
  rw [wlc_at (by omega), hr, entK_ia hK]
theorem wlc_arset {r K i : Nat} {v : Int} (hr : kd r = K) (hK : 20 ≤ K ∧ K ≤ 26) : (wlc cy ad E σ).set r (ad r, .inl (cy (cyK K), alen K, .inl (upd (fun j => Int32.ofInt (σ r j)) i (Int32.ofInt v)))) = wlc cy ad E (upm σ r i v) := by
  have hl2 := kd_lt (r := r) (by omega)
  rw [← arI_up, ← wlc_set hl2 (fun q hq => upm_ne hq), upm_self, hr, entK_ia hK]
theorem Tc_iald (C : Cx X (Yc cy ad E G A nL Q) cc own ret Rm (tyc cy)) {i : Int} (r K n k : Nat) (hr : kd r = K) (hK : isIA K) (hn : alen K = n) (hi : 0 ≤ i ∧ i < n) (hk0 : i.toNat = k) (d : decode cc pc = .ok (.iaload, 1)) (K0 : rng (σ r k) → T X (Yc cy ad E G A nL Q) kp a b (pc + 1) L (vi (σ r k) :: st) σ rr) : T X (Yc cy ad E G A nL Q) kp a b pc L (vi i :: .ref (ad r) :: st) σ rr := fun o h hk H locs ls hP hD hS hw hl => by
  subst hn
  have hcy : cyK K = 0 := by unfold cyK; rw [if_neg (by omega), if_neg (by omega)]
  have hat := wlc_ar (cy := cy) (ad := ad) (E := E) (σ := σ) hr ⟨hK.1, by omega⟩
  have h3 := hw r k
  rw [hr, okv_ia hK] at h3
  refine va_iald (q0 := r) (t0 := 0) C.1 C.2.1 C.2.2.2.2.2.1 hP hat (by rw [hcy]; rfl) (ix_in hi (alen_le K)) d ?_
  rw [ix_nat hi (alen_le K), hk0]
  exact K0 h3 o h hk H locs ls hP hD hS hw hl
theorem Tc_iast (C : Cx X (Yc cy ad E G A nL Q) cc own ret Rm (tyc cy)) {i v : Int} (r K n k : Nat) (hr : kd r = K) (hK : isIA K) (hn : alen K = n) (hi : 0 ≤ i ∧ i < n) (hk0 : i.toNat = k) (hv : rng v) (d : decode cc pc = .ok (.iastore, 1)) (K0 : T X (Yc cy ad E G A nL Q) kp a b (pc + 1) L st (upm σ r k v) rr) : T X (Yc cy ad E G A nL Q) kp a b pc L (vi v :: vi i :: .ref (ad r) :: st) σ rr := fun o h hk H locs ls hP hD hS hw hl => by
  subst hn
  have hcy : cyK K = 0 := by unfold cyK; rw [if_neg (by omega), if_neg (by omega)]
  have hat := wlc_ar (cy := cy) (ad := ad) (E := E) (σ := σ) hr ⟨hK.1, by omega⟩
  refine va_iast (q0 := r) (t0 := 0) C.1 C.2.1 C.2.2.2.2.2.1 hP hD hS hat (by rw [hcy]; rfl) (ix_in hi (alen_le K)) d (fun H1 locs1 hP1 hD1 hS1 => ?_)
  rw [ix_nat hi (alen_le K), hk0, wlc_arset hr ⟨hK.1, by omega⟩] at hP1 hD1
  exact K0 o h hk H1 locs1 ls hP1 hD1 hS1 (wfc_up hw (by rw [hr, okv_ia hK]; exact hv)) hl
theorem Tc_zald (C : Cx X (Yc cy ad E G A nL Q) cc own ret Rm (tyc cy)) {i : Int} (r k : Nat) (hr : kd r = 25) (hi : 0 ≤ i ∧ i < 10) (hk0 : i.toNat = k) (d : decode cc pc = .ok (.baload, 1)) (K0 : bit (σ r k) → T X (Yc cy ad E G A nL Q) kp a b (pc + 1) L (vi (σ r k) :: st) σ rr) : T X (Yc cy ad E G A nL Q) kp a b pc L (vi i :: .ref (ad r) :: st) σ rr := fun o h hk H locs ls hP hD hS hw hl => by
  have hat := wlc_ar (cy := cy) (ad := ad) (E := E) (σ := σ) hr ⟨by decide, by decide⟩
  have h3 := hw r k
  rw [hr] at h3
  refine va_zald (q0 := r) (t0 := 1) C.1 C.2.1 C.2.2.2.2.2.1 hP hat rfl (ix_in (n := 10) hi (by decide)) d ?_
  rw [ix_nat (n := 10) hi (by decide), hk0]
  exact K0 h3 o h hk H locs ls hP hD hS hw hl
theorem Tc_zast (C : Cx X (Yc cy ad E G A nL Q) cc own ret Rm (tyc cy)) {i v : Int} (r k : Nat) (hr : kd r = 25) (hi : 0 ≤ i ∧ i < 10) (hk0 : i.toNat = k) (hv : bit v) (d : decode cc pc = .ok (.bastore, 1)) (K0 : T X (Yc cy ad E G A nL Q) kp a b (pc + 1) L st (upm σ r k v) rr) : T X (Yc cy ad E G A nL Q) kp a b pc L (vi v :: vi i :: .ref (ad r) :: st) σ rr := fun o h hk H locs ls hP hD hS hw hl => by
  have hat := wlc_ar (cy := cy) (ad := ad) (E := E) (σ := σ) hr ⟨by decide, by decide⟩
  refine va_zast (q0 := r) (t0 := 1) C.1 C.2.1 C.2.2.2.2.2.1 hP hD hS hat rfl (ix_in (n := 10) hi (by decide)) d (fun H1 locs1 hP1 hD1 hS1 => ?_)
  have e : vp_nar .boolean (Int32.ofInt v) = Int32.ofInt v := Value.int.inj (nar_Z hv)
  have e2 := wlc_arset (cy := cy) (ad := ad) (E := E) (σ := σ) (i := k) (v := v) hr ⟨by decide, by decide⟩
  rw [ix_nat (n := 10) hi (by decide), hk0, e] at hP1 hD1
  replace hP1 : va_P G vwCl (wlc cy ad E (upm σ r k v)) H1 := by rw [← e2]; exact hP1
  replace hD1 : va_D A (wlc cy ad E (upm σ r k v)) := by rw [← e2]; exact hD1
  exact K0 o h hk H1 locs1 ls hP1 hD1 hS1 (wfc_up hw (by rw [hr]; exact hv)) hl
theorem Tc_cald (C : Cx X (Yc cy ad E G A nL Q) cc own ret Rm (tyc cy)) {i : Int} (r k : Nat) (hr : kd r = 26) (hi : 0 ≤ i ∧ i < 60) (hk0 : i.toNat = k) (d : decode cc pc = .ok (.caload, 1)) (K0 : 0 ≤ σ r k ∧ σ r k < 65536 → T X (Yc cy ad E G A nL Q) kp a b (pc + 1) L (vi (σ r k) :: st) σ rr) : T X (Yc cy ad E G A nL Q) kp a b pc L (vi i :: .ref (ad r) :: st) σ rr := fun o h hk H locs ls hP hD hS hw hl => by
  have hat := wlc_ar (cy := cy) (ad := ad) (E := E) (σ := σ) hr ⟨by decide, by decide⟩
  have h3 := hw r k
  rw [hr] at h3
  refine va_cald (q0 := r) (t0 := 2) C.1 C.2.1 C.2.2.2.2.2.1 hP hat rfl (ix_in (n := 60) hi (by decide)) d ?_
  rw [ix_nat (n := 60) hi (by decide), hk0]
  exact K0 h3 o h hk H locs ls hP hD hS hw hl
theorem Tc_cast (C : Cx X (Yc cy ad E G A nL Q) cc own ret Rm (tyc cy)) {i v : Int} (r k : Nat) (hr : kd r = 26) (hi : 0 ≤ i ∧ i < 60) (hk0 : i.toNat = k) (hv : 0 ≤ v ∧ v < 65536) (d : decode cc pc = .ok (.castore, 1)) (K0 : T X (Yc cy ad E G A nL Q) kp a b (pc + 1) L st (upm σ r k v) rr) : T X (Yc cy ad E G A nL Q) kp a b pc L (vi v :: vi i :: .ref (ad r) :: st) σ rr := fun o h hk H locs ls hP hD hS hw hl => by
  have hat := wlc_ar (cy := cy) (ad := ad) (E := E) (σ := σ) hr ⟨by decide, by decide⟩
  refine va_cast (q0 := r) (t0 := 2) C.1 C.2.1 C.2.2.2.2.2.1 hP hD hS hat rfl (ix_in (n := 60) hi (by decide)) d (fun H1 locs1 hP1 hD1 hS1 => ?_)
  have e : vp_nar .char (Int32.ofInt v) = Int32.ofInt v := Value.int.inj (nar_C hv)
  have e2 := wlc_arset (cy := cy) (ad := ad) (E := E) (σ := σ) (i := k) (v := v) hr ⟨by decide, by decide⟩
  rw [ix_nat (n := 60) hi (by decide), hk0, e] at hP1 hD1
  replace hP1 : va_P G vwCl (wlc cy ad E (upm σ r k v)) H1 := by rw [← e2]; exact hP1
  replace hD1 : va_D A (wlc cy ad E (upm σ r k v)) := by rw [← e2]; exact hD1
  exact K0 o h hk H1 locs1 ls hP1 hD1 hS1 (wfc_up hw (by rw [hr]; exact hv)) hl
theorem Tc_alen (C : Cx X (Yc cy ad E G A nL Q) cc own ret Rm (tyc cy)) (r K : Nat) (hr : kd r = K) (hK : isIA K) (d : decode cc pc = .ok (.arraylength, 1)) (K0 : T X (Yc cy ad E G A nL Q) kp a b (pc + 1) L (vi ((alen K : Nat) : Int) :: st) σ rr) : T X (Yc cy ad E G A nL Q) kp a b pc L (.ref (ad r) :: st) σ rr := fun o h hk H locs ls hP hD hS hw hl => by
  have hcy : cyK K = 0 := by unfold cyK; rw [if_neg (by omega), if_neg (by omega)]
  have hat := wlc_ar (cy := cy) (ad := ad) (E := E) (σ := σ) hr ⟨hK.1, by omega⟩
  exact va_alen (q0 := r) (t0 := 0) C.1 C.2.1 C.2.2.2.2.2.1 hP hat (ty := .int) (by rw [hcy]; rfl) rfl d (K0 o h hk H locs ls hP hD hS hw hl)
theorem Tc_ald27 (C : Cx X (Yc cy ad E G A nL Q) cc own ret Rm (tyc cy)) {i : Int} (k : Nat) (hk8 : kd k = 8) (hi : 0 ≤ i ∧ i < 5) (d : decode cc pc = .ok (.aaload, 1)) (K0 : kd (k + 23 + 2 * i.toNat) = 7 → T X (Yc cy ad E G A nL Q) kp a b (pc + 1) L (.ref (ad (k + 23 + 2 * i.toNat)) :: st) σ rr) : T X (Yc cy ad E G A nL Q) kp a b pc L (vi i :: .ref (ad (k + 4)) :: st) σ rr := fun o h hk H locs ls hP hD hS hw hl => by
  have h4 := (kd_8 hk8).2.2.2.1
  have hl2 := kd_lt (r := k + 4) (by omega)
  have hat : (wlc cy ad E σ)[k + 4]? = some (ad (k + 4), arQ cy 3 5 (fun j => some (ad (k + 4 + 19 + 2 * j)))) := by rw [wlc_at (by omega), h4]; rfl
  refine va_aldq (q0 := k + 4) (t0 := 3) C.1 C.2.1 C.2.2.2.2.2.1 hP hat rfl (ix_in (n := 5) hi (by decide)) d ?_
  rw [ix_nat (n := 5) hi (by decide)]
  exact K0 (kd_ln hk8 (by omega)) o h hk H locs ls hP hD hS hw hl
theorem Tc_ald28 (C : Cx X (Yc cy ad E G A nL Q) cc own ret Rm (tyc cy)) {i : Int} (r k : Nat) (hr : kd r = 28) (hi : 0 ≤ i ∧ i < 16) (hk0 : i.toNat = k) (d : decode cc pc = .ok (.aaload, 1)) (K0 : 0 ≤ σ r k ∧ kd (σ r k).toNat = 10 → T X (Yc cy ad E G A nL Q) kp a b (pc + 1) L (.ref (ad (σ r k).toNat) :: st) σ rr) : T X (Yc cy ad E G A nL Q) kp a b pc L (vi i :: .ref (ad r) :: st) σ rr := fun o h hk H locs ls hP hD hS hw hl => by
  have hl2 := kd_lt (r := r) (by omega)
  have hat : (wlc cy ad E σ)[r]? = some (ad r, arQ cy 4 16 (fun j => some (ad (σ r j).toNat))) := by rw [wlc_at (by omega), hr]; rfl
  have h3 := hw r k
  rw [hr] at h3
  refine va_aldq (q0 := r) (t0 := 4) C.1 C.2.1 C.2.2.2.2.2.1 hP hat rfl (ix_in (n := 16) hi (by decide)) d ?_
  rw [ix_nat (n := 16) hi (by decide), hk0]
  exact K0 h3 o h hk H locs ls hP hD hS hw hl
theorem Tc_ald29 (C : Cx X (Yc cy ad E G A nL Q) cc own ret Rm (tyc cy)) {i : Int} (r : Nat) (hr : kd r = 29) (hi : 0 ≤ i ∧ i < 8) (d : decode cc pc = .ok (.aaload, 1)) (K0 : kd (102 + 33 * i.toNat) = 8 → T X (Yc cy ad E G A nL Q) kp a b (pc + 1) L (.ref (ad (102 + 33 * i.toNat)) :: st) σ rr) : T X (Yc cy ad E G A nL Q) kp a b pc L (vi i :: .ref (ad r) :: st) σ rr := fun o h hk H locs ls hP hD hS hw hl => by
  have hl2 := kd_lt (r := r) (by omega)
  have hat : (wlc cy ad E σ)[r]? = some (ad r, arQ cy 5 8 (fun j => some (ad (102 + 33 * j)))) := by rw [wlc_at (by omega), hr]; rfl
  refine va_aldq (q0 := r) (t0 := 5) C.1 C.2.1 C.2.2.2.2.2.1 hP hat rfl (ix_in (n := 8) hi (by decide)) d ?_
  rw [ix_nat (n := 8) hi (by decide)]
  exact K0 (kd_kept (by omega)) o h hk H locs ls hP hD hS hw hl
theorem Tc_ald30 (C : Cx X (Yc cy ad E G A nL Q) cc own ret Rm (tyc cy)) {i : Int} (r k : Nat) (hr : kd r = 30) (hi : 0 ≤ i ∧ i < 16) (hk0 : i.toNat = k) (d : decode cc pc = .ok (.aaload, 1)) (K0 : 0 ≤ σ r k ∧ σ r k < 14 → T X (Yc cy ad E G A nL Q) kp a b (pc + 1) L (ve E 1 (σ r k) :: st) σ rr) : T X (Yc cy ad E G A nL Q) kp a b pc L (vi i :: .ref (ad r) :: st) σ rr := fun o h hk H locs ls hP hD hS hw hl => by
  have hl2 := kd_lt (r := r) (by omega)
  have hat : (wlc cy ad E σ)[r]? = some (ad r, arQ cy 6 16 (fun j => some (E 1 (σ r j).toNat))) := by rw [wlc_at (by omega), hr]; rfl
  have h3 := hw r k
  rw [hr] at h3
  refine va_aldq (q0 := r) (t0 := 6) C.1 C.2.1 C.2.2.2.2.2.1 hP hat rfl (ix_in (n := 16) hi (by decide)) d ?_
  rw [ix_nat (n := 16) hi (by decide), hk0]
  exact K0 h3 o h hk H locs ls hP hD hS hw hl
theorem Tc_ast28 (C : Cx X (Yc cy ad E G A nL Q) cc own ret Rm (tyc cy)) {i : Int} (r k t : Nat) (hr : kd r = 28) (ht : kd t = 10) (hi : 0 ≤ i ∧ i < 16) (hk0 : i.toNat = k) (d : decode cc pc = .ok (.aastore, 1)) (K0 : T X (Yc cy ad E G A nL Q) kp a b (pc + 1) L st (upm σ r k (t : Int)) rr) : T X (Yc cy ad E G A nL Q) kp a b pc L (.ref (ad t) :: vi i :: .ref (ad r) :: st) σ rr := fun o h hk H locs ls hP hD hS hw hl => by
  have hl2 := kd_lt (r := r) (by omega)
  have hl3 := kd_lt (r := t) (by omega)
  have hat : (wlc cy ad E σ)[r]? = some (ad r, arQ cy 4 16 (fun j => some (ad (σ r j).toNat))) := by rw [wlc_at (by omega), hr]; rfl
  have hat2 : (wlc cy ad E σ)[t]? = some (ad t, .inr (11, fsK ad 10 t (σ t))) := by rw [wlc_at (by omega), ht]; rfl
  refine va_astq (q0 := r) (t0 := 4) (qk := t) (ci := 11) (r := ("RingTransit$Ticket", TX10, 6)) C.1 C.2.1 C.2.2.2.2.2.1 hP hD hS hat rfl hat2 rfl (ix_in (n := 16) hi (by decide)) d (fun H1 locs1 hP1 hD1 hS1 => ?_)
  have e : (wlc cy ad E σ).set r (ad r, arQ cy 4 16 (va_up (fun j => some (ad (σ r j).toNat)) k (some (ad t)))) = wlc cy ad E (upm σ r k (t : Int)) := by
    rw [← wlc_set hl2 (fun q hq => upm_ne hq), upm_self, hr]
    have : va_up (fun j => some (ad (σ r j).toNat)) k (some (ad t)) = fun j => some (ad (upf (σ r) k (t : Int) j).toNat) := by
      funext j
      unfold va_up upf
      by_cases h : j = k <;> simp [h]
    rw [this]
    rfl
  rw [ix_nat (n := 16) hi (by decide), hk0] at hP1 hD1
  replace hP1 : va_P G vwCl (wlc cy ad E (upm σ r k (t : Int))) H1 := by rw [← e]; exact hP1
  replace hD1 : va_D A (wlc cy ad E (upm σ r k (t : Int))) := by rw [← e]; exact hD1
  exact K0 o h hk H1 locs1 ls hP1 hD1 hS1 (wfc_up hw (by rw [hr]; exact ⟨Int.natCast_nonneg _, ht⟩)) hl
/-- a whole array of ints over another -/
def cpm (σ : Sm) (rs rd n : Nat) : Sm := fun q i => if q = rd ∧ i < n then σ rs i else σ q i
theorem Tc_copy (C : Cx X (Yc cy ad E G A nL Q) cc own ret Rm (tyc cy)) {idx : Nat} {z1 z2 : Int} (rs rd K n : Nat) (hs : kd rs = K) (hr : kd rd = K) (hK : isIA K) (hn : alen K = n) (h1 : z1 = 0) (h2 : z2 = 0) (hlink : Cond.methodLink own idx arraycopyName ∈ lwG) (hnat : Cond.native arraycopyName ∈ lwG) (hstat : Cond.static arraycopyName ∈ lwG) (hini : Cond.initialized "java/lang/System" ∈ lwG) (hfr : 1 ≤ Rm.frames) (hlo : (st.map fun v => v.category).sum + (nativeFrameWords "java/lang/System" "arraycopy" 5 + 11) ≤ Rm.locals) (d : decode cc pc = .ok (.invokestatic idx, 3)) (K0 : T X (Yc cy ad E G A nL Q) kp a b (pc + 3) L st (cpm σ rs rd n) rr) : T X (Yc cy ad E G A nL Q) kp a b pc L (vi (n : Int) :: vi z2 :: .ref (ad rd) :: vi z1 :: .ref (ad rs) :: st) σ rr := fun o h hk H locs ls hP hD hS hw hl => by
  subst hn; subst h1; subst h2
  obtain ⟨hx, hb, hml, hown, hts, hK9, hA, -, hRm, -⟩ := C
  have hcy : cyK K = 0 := by unfold cyK; rw [if_neg (by omega), if_neg (by omega)]
  have hat1 := wlc_ar (cy := cy) (ad := ad) (E := E) (σ := σ) hs ⟨hK.1, by omega⟩
  have hat2 := wlc_ar (cy := cy) (ad := ad) (E := E) (σ := σ) hr ⟨hK.1, by omega⟩
  have hl2 := kd_lt (r := rd) (by omega)
  have hale : alen K ≤ 100 := by unfold alen; repeat' split
                                 all_goals omega
  have hz : (Int32.ofInt 0).toNatClampNeg = 0 := by decide
  have hnn : (Int32.ofInt (alen K : Int)).toNatClampNeg = alen K := by
    rw [← Int32.toNat_toInt, rng_toInt ⟨by omega, by omega⟩]; rfl
  refine va_copyi (q0 := rs) (q1 := rd) (t0 := 0) (t1 := 0) hx hb (hml.trans hl.1.symm) hown (hts _ hlink) (hts _ hnat) (hts _ hstat) (hts _ hini) hK9 hP hD hS hat1 hat2 (ty := .int) (by rw [hcy]; rfl) (by rw [hcy]; rfl) rfl (by decide) (by decide) ?_ ?_ ?_ (fun _ _ => rfl) (by rw [hRm]; exact hfr) (by rw [hRm]; exact hlo) d (fun H1 locs1 hP1 hD1 hS1 => ?_)
  · rw [show (0 : Int32) = Int32.ofInt 0 from rfl, rng_lt ⟨by omega, by omega⟩ rng_0]; omega
  · rw [hz, hnn]; omega
  · rw [hz, hnn]; omega
  · have e : (wlc cy ad E σ).set rd (ad rd, .inl (cy (cyK K), alen K, .inl (va_cpy (fun j => Int32.ofInt (σ rs j)) (fun j => Int32.ofInt (σ rd j)) 0 0 (alen K)))) = wlc cy ad E (cpm σ rs rd (alen K)) := by
      rw [← wlc_set (σ := σ) (τ := cpm σ rs rd (alen K)) hl2 (fun q hq => by funext j; simp [cpm, hq]), hr, entK_ia ⟨hK.1, by omega⟩]
      have : va_cpy (fun j => Int32.ofInt (σ rs j)) (fun j => Int32.ofInt (σ rd j)) 0 0 (alen K) = fun j => Int32.ofInt (cpm σ rs rd (alen K) rd j) := by
        funext j
        unfold va_cpy cpm
        by_cases h : j < alen K <;> simp [h]
      rw [this]
    rw [hz, hnn] at hP1 hD1
    replace hP1 : va_P G vwCl (wlc cy ad E (cpm σ rs rd (alen K))) H1 := by rw [← e]; exact hP1
    replace hD1 : va_D A (wlc cy ad E (cpm σ rs rd (alen K))) := by rw [← e]; exact hD1
    refine K0 o h hk H1 locs1 ls hP1 hD1 hS1 (fun q i => ?_) hl
    unfold cpm
    split
    · next e9 => rw [e9.1, hr, ← hs]; exact hw rs i
    · exact hw q i
end CM
