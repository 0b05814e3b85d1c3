/-! agreement of class and model, part 76 -/
/-! changes of g -/
theorem upf_eq (g : Ga) (i : Nat) (v : Int) : upf g i v i = v := by simp [upf]
theorem upf_ne {g : Ga} {i j : Nat} {v : Int} (h : j ≠ i) : upf g i v j = g j := by simp [upf, h]
theorem upm_upf (μ : Sm) (s i : Nat) (v : Int) : upm μ s i v s = upf (μ s) i v := by funext j; simp [upm, upf]
section GC
variable {K K' : Int} {g g' : Ga}
theorem GL.congr {c : Nat} (L : GL g c) (h : ∀ w, w < 16 → gl g' c w = gl g c w) (h0 : g 0 ≤ g' 0) (h2 : ((c : Int) < g' 2 → (c : Int) < g 2) ∧ (g' 2 ≤ (c : Int) → g 2 ≤ (c : Int))) : GL g' c := by
  have e := fun w (hw : w < 16) => h w hw
  have sz := L.sz
  apply GL.mk
  · rw [e 0 (by decide)]; exact L.hw
  · rw [e 1 (by decide)]; exact L.of
  · rw [e 2 (by decide)]; exact L.hp
  · rw [e 3 (by decide)]; exact L.dl
  · rw [e 4 (by decide)]; exact L.se
  · rw [e 5 (by decide)]; exact L.sz
  · rw [e 6 (by decide)]; exact L.su
  · intro p hp
    rw [e 5 (by decide)] at hp
    rw [e (7 + p) (by omega)]
    have := L.rg p hp; omega
  · intro p q hp hq
    rw [e 5 (by decide)] at hp hq
    rw [e (7 + p) (by omega), e (7 + q) (by omega)]
    exact L.ds p q hp hq
  · intro hc
    rw [e 0 (by decide), e 2 (by decide), e 4 (by decide)]; exact L.on (h2.1 hc)
  · intro hc
    rw [e 3 (by decide), e 5 (by decide), e 6 (by decide)]; exact L.off (h2.2 hc)
theorem GI.liC (G : GI K g) (h : ∀ i, 132 ≤ i → i < 212 → g' i = g i) (h0 : g 0 ≤ g' 0) (h2 : g' 2 = g 2) : ∀ c, c < 5 → GL g' c := fun c hc =>
  (G.li c hc).congr (fun w hw => h _ (by omega) (by omega)) h0 (by omega)
theorem GI.trC (G : GI K g) (h : ∀ i, 12 ≤ i → i < 32 → g' i = g i) : ∀ i, i < 10 → 0 ≤ g' (12 + 2 * i) ∧ g' (12 + 2 * i) ≤ 9 := fun i hi => by
  rw [h _ (by omega) (by omega)]; exact G.tr i hi
theorem GI.clC (G : GI K g) (h : ∀ i, 12 ≤ i → i < 32 → g' i = g i) : ∀ i, i < 10 → bit (g' (13 + 2 * i)) := fun i hi => by
  rw [h _ (by omega) (by omega)]; exact G.cl i hi
theorem GI.coC (G : GI K g) (h : ∀ i, 12 ≤ i → i < 32 → g' i = g i) (h0 : g 0 ≤ g' 0) : ∀ i : Nat, i < 10 → g' 0 ≤ (i : Int) → g' (13 + 2 * i) = 0 := fun i hi h1 => by
  rw [h _ (by omega) (by omega)]; exact G.co i hi (by omega)
theorem GI.wlC (G : GI K g) (h : ∀ i, 32 ≤ i → i < 132 → g' i = g i) : ∀ a b, a < 10 → b < 10 → 0 ≤ g' (32 + 10 * a + b) ∧ g' (32 + 10 * a + b) ≤ 30 := fun a b ha hb => by
  rw [h _ (by omega) (by omega)]; exact G.wl a b ha hb
theorem GT.congr {k : Nat} (L : GT g k) (h : ∀ w, w < 6 → gt g' k w = gt g k w) (h4 : g 4 ≤ g' 4) (h2 : g 2 ≤ g' 2) (hs : gl g' (gt g k 1).toNat 5 = gl g (gt g k 1).toNat 5) : GT g' k := by
  apply GT.mk
  · rw [h 0 (by decide)]; have := L.id; omega
  · rw [h 1 (by decide)]; have := L.ln; omega
  · rw [h 2 (by decide)]; exact L.tr
  · rw [h 3 (by decide), h 4 (by decide)]; exact L.fr
  · rw [h 4 (by decide), h 1 (by decide), hs]; exact L.to
  · rw [h 5 (by decide)]; exact L.pr
theorem GI.tiC (G : GI K g) (h : ∀ i, 212 ≤ i → i < 340 → g' i = g i) (h3 : g' 3 = g 3) (h4 : g 4 ≤ g' 4) (h2 : g 2 ≤ g' 2) (hs : ∀ c : Nat, c < 5 → (∃ k : Nat, (k : Int) < g 3 ∧ gt g k 1 = (c : Int)) → gl g' c 5 = gl g c 5) : ∀ k : Nat, (k : Int) < g' 3 → GT g' k := fun k hk => by
  have h16 := G.tk
  have T := G.ti k (by omega)
  have h5 := T.ln
  have h6 := G.ln
  exact T.congr (fun w hw => h _ (by omega) (by omega)) h4 h2 (hs _ (by omega) ⟨k, by omega, by omega⟩)
theorem sold_congr (h16 : g 3 ≤ 16) (h : ∀ i, 212 ≤ i → i < 340 → g' i = g i) (h3 : g' 3 = g 3) (c t p : Int) : sold g' c t p = sold g c t p := by
  unfold sold
  rw [h3]
  refine ctk_congr (fun k hk => ?_)
  have e : ∀ w, w < 6 → gt g' k w = gt g k w := fun w hw => h _ (by omega) (by omega)
  rw [e 1 (by decide), e 2 (by decide), e 3 (by decide), e 4 (by decide)]
theorem tof_congr (h16 : g 3 ≤ 16) (h : ∀ i, 212 ≤ i → i < 340 → g' i = g i) (h3 : g' 3 = g 3) (c : Int) : tof g' c = tof g c := by
  unfold tof
  rw [h3]
  refine ctk_congr (fun k hk => ?_)
  have e : gt g' k 1 = gt g k 1 := h _ (by omega) (by omega)
  rw [e]
theorem GI.capC (G : GI K g) (h : ∀ i, 212 ≤ i → i < 340 → g' i = g i) (h3 : g' 3 = g 3) (hs : ∀ c, c < 5 → gl g c 4 ≤ gl g' c 4) : ∀ c : Nat, c < 5 → ∀ t h, sold g' c t h ≤ gl g' c 4 := fun c hc t p => by
  rw [sold_congr G.tk.2 h h3]
  exact Int.le_trans (G.cap c hc t p) (hs c hc)
theorem tof0 {c : Int} (h : tof g c = 0) : ∀ k : Nat, (k : Int) < g 3 → gt g k 1 ≠ c := by
  unfold tof at h
  intro k hk
  have aux : ∀ n, ctk (fun k => decide (gt g k 1 = c)) n = 0 → ∀ k, k < n → gt g k 1 ≠ c := by
    intro n
    induction n with
    | zero => intro _ k hk; omega
    | succ n ih =>
      intro h k hk
      have h1 := ctk_rng (fun k => decide (gt g k 1 = c)) n
      rw [ctk] at h
      by_cases q : gt g n 1 = c
      · rw [if_pos (by simpa using q)] at h; omega
      · rw [if_neg (by simpa using q)] at h
        by_cases e : k = n
        · subst e; exact q
        · exact ih (by omega) k (by omega)
  exact aux _ h k (by omega)
theorem GI.mono (G : GI K g) (h : K ≤ K') : GI K' g := by
  apply GI.mk
  · exact G.st
  · have := G.wk; omega
  · exact G.ln
  · exact G.tk
  · have := G.nx; omega
  · have := G.mi; omega
  · exact G.ra
  · have := G.ic; omega
  · have := G.rf; omega
  · have := G.us; omega
  · exact G.tr
  · exact G.cl
  · exact G.co
  · exact G.wl
  · exact G.li
  · exact G.ti
  · exact G.cap
end GC
/-! the changes -/
def gAS (g : Ga) (x : Int) : Ga := upf (upf g (12 + 2 * (g 0).toNat) x) 0 (g 0 + 1)
def gAW (g : Ga) (a c : Nat) (m : Int) : Ga := upf (upf (upf g (32 + 10 * a + c) m) (32 + 10 * c + a) m) 1 (g 1 + 1)
def gRW (g : Ga) (a c : Nat) : Ga := upf (upf (upf g (32 + 10 * a + c) 0) (32 + 10 * c + a) 0) 1 (g 1 - 1)
def gAL (g : Ga) (h o p s : Int) : Ga := upf (upf (upf (upf (upf g (132 + 16 * (g 2).toNat) h) (132 + 16 * (g 2).toNat + 1) o) (132 + 16 * (g 2).toNat + 2) p) (132 + 16 * (g 2).toNat + 4) s) 2 (g 2 + 1)
def gEx (g : Ga) (c : Nat) (s : Int) : Ga := upf (upf g (132 + 16 * c + (7 + (gl g c 5).toNat)) s) (132 + 16 * c + 5) (gl g c 5 + 1)
def gSh (g : Ga) (c : Nat) : Ga := upf (upf g (132 + 16 * c + (7 + (gl g c 5 - 1).toNat)) 0) (132 + 16 * c + 5) (gl g c 5 - 1)
section GCH
variable {K : Int} {g : Ga}
theorem gAS_ok (G : GI K g) {x : Int} (hx : 0 ≤ x ∧ x ≤ 9) (h : g 0 < 10) : GI K (gAS g x) := by
  have h0 := G.st
  have e0 : gAS g x 0 = g 0 + 1 := upf_eq _ _ _
  have e1 : gAS g x (12 + 2 * (g 0).toNat) = x := by unfold gAS; rw [upf_ne (by omega), upf_eq]
  have en : ∀ i, i ≠ 0 → i ≠ 12 + 2 * (g 0).toNat → gAS g x i = g i := fun i h1 h2 => by unfold gAS; rw [upf_ne h1, upf_ne h2]
  apply GI.mk
  · rw [e0]; omega
  · rw [en _ (by omega) (by omega)]; exact G.wk
  · rw [en _ (by omega) (by omega)]; exact G.ln
  · rw [en _ (by omega) (by omega)]; exact G.tk
  · rw [en _ (by omega) (by omega)]; exact G.nx
  · rw [en _ (by omega) (by omega)]; exact G.mi
  · rw [en _ (by omega) (by omega)]; exact G.ra
  · rw [en _ (by omega) (by omega)]; exact G.ic
  · rw [en _ (by omega) (by omega)]; exact G.rf
  · rw [en _ (by omega) (by omega)]; exact G.us
  · intro i hi
    by_cases q : i = (g 0).toNat
    · subst q; rw [e1]; exact hx
    · rw [en _ (by omega) (by omega)]; exact G.tr i hi
  · intro i hi
    rw [en _ (by omega) (by omega)]; exact G.cl i hi
  · intro i hi h1
    rw [e0] at h1
    rw [en _ (by omega) (by omega)]; exact G.co i hi (by omega)
  · exact G.wlC (fun i h1 h2 => en _ (by omega) (by omega))
  · exact G.liC (fun i h1 h2 => en _ (by omega) (by omega)) (by omega) (en _ (by omega) (by omega))
  · exact G.tiC (fun i h1 h2 => en _ (by omega) (by omega)) (en _ (by omega) (by omega)) (by rw [en _ (by omega) (by omega)]; omega) (by rw [en _ (by omega) (by omega)]; omega) (fun c hc _ => en _ (by omega) (by omega))
  · exact G.capC (fun i h1 h2 => en _ (by omega) (by omega)) (en _ (by omega) (by omega)) (fun c hc => by unfold gl; rw [en _ (by omega) (by omega)]; omega)
theorem gAW_ok (G : GI K g) {a c : Nat} {m : Int} (ha : a < 10) (hc : c < 10) (hm : 1 ≤ m ∧ m ≤ 30) (h : g 1 < 15) : GI K (gAW g a c m) := by
  have h0 := G.wk
  have e0 : gAW g a c m 1 = g 1 + 1 := upf_eq _ _ _
  have en : ∀ i, i ≠ 1 → i ≠ 32 + 10 * a + c → i ≠ 32 + 10 * c + a → gAW g a c m i = g i := fun i h1 h2 h3 => by unfold gAW; rw [upf_ne h1, upf_ne h3, upf_ne h2]
  apply GI.mk
  · rw [en _ (by omega) (by omega) (by omega)]; exact G.st
  · rw [e0]; omega
  · rw [en _ (by omega) (by omega) (by omega)]; exact G.ln
  · rw [en _ (by omega) (by omega) (by omega)]; exact G.tk
  · rw [en _ (by omega) (by omega) (by omega)]; exact G.nx
  · rw [en _ (by omega) (by omega) (by omega)]; exact G.mi
  · rw [en _ (by omega) (by omega) (by omega)]; exact G.ra
  · rw [en _ (by omega) (by omega) (by omega)]; exact G.ic
  · rw [en _ (by omega) (by omega) (by omega)]; exact G.rf
  · rw [en _ (by omega) (by omega) (by omega)]; exact G.us
  · exact G.trC (fun i h1 h2 => en _ (by omega) (by omega) (by omega))
  · exact G.clC (fun i h1 h2 => en _ (by omega) (by omega) (by omega))
  · exact G.coC (fun i h1 h2 => en _ (by omega) (by omega) (by omega)) (by rw [en _ (by omega) (by omega) (by omega)]; omega)
  · intro x y hx hy
    have := G.wl x y hx hy
    unfold gAW upf
    repeat' split
    all_goals omega
  · exact G.liC (fun i h1 h2 => en _ (by omega) (by omega) (by omega)) (by rw [en _ (by omega) (by omega) (by omega)]; omega) (en _ (by omega) (by omega) (by omega))
  · exact G.tiC (fun i h1 h2 => en _ (by omega) (by omega) (by omega)) (en _ (by omega) (by omega) (by omega)) (by rw [en _ (by omega) (by omega) (by omega)]; omega) (by rw [en _ (by omega) (by omega) (by omega)]; omega) (fun c hc _ => en _ (by omega) (by omega) (by omega))
  · exact G.capC (fun i h1 h2 => en _ (by omega) (by omega) (by omega)) (en _ (by omega) (by omega) (by omega)) (fun c hc => by unfold gl; rw [en _ (by omega) (by omega) (by omega)]; omega)
theorem gRW_ok (G : GI K g) {a c : Nat} (ha : a < 10) (hc : c < 10) : GI (K + 1) (gRW g a c) := by
  have h0 := G.wk
  replace G := G.mono (show K ≤ K + 1 by omega)
  have e0 : gRW g a c 1 = g 1 - 1 := upf_eq _ _ _
  have en : ∀ i, i ≠ 1 → i ≠ 32 + 10 * a + c → i ≠ 32 + 10 * c + a → gRW g a c i = g i := fun i h1 h2 h3 => by unfold gRW; rw [upf_ne h1, upf_ne h3, upf_ne h2]
  apply GI.mk
  · rw [en _ (by omega) (by omega) (by omega)]; exact G.st
  · rw [e0]; omega
  · rw [en _ (by omega) (by omega) (by omega)]; exact G.ln
  · rw [en _ (by omega) (by omega) (by omega)]; exact G.tk
  · rw [en _ (by omega) (by omega) (by omega)]; exact G.nx
  · rw [en _ (by omega) (by omega) (by omega)]; exact G.mi
  · rw [en _ (by omega) (by omega) (by omega)]; exact G.ra
  · rw [en _ (by omega) (by omega) (by omega)]; exact G.ic
  · rw [en _ (by omega) (by omega) (by omega)]; exact G.rf
  · rw [en _ (by omega) (by omega) (by omega)]; exact G.us
  · exact G.trC (fun i h1 h2 => en _ (by omega) (by omega) (by omega))
  · exact G.clC (fun i h1 h2 => en _ (by omega) (by omega) (by omega))
  · exact G.coC (fun i h1 h2 => en _ (by omega) (by omega) (by omega)) (by rw [en _ (by omega) (by omega) (by omega)]; omega)
  · intro x y hx hy
    have := G.wl x y hx hy
    unfold gRW upf
    repeat' split
    all_goals omega
  · exact G.liC (fun i h1 h2 => en _ (by omega) (by omega) (by omega)) (by rw [en _ (by omega) (by omega) (by omega)]; omega) (en _ (by omega) (by omega) (by omega))
  · exact G.tiC (fun i h1 h2 => en _ (by omega) (by omega) (by omega)) (en _ (by omega) (by omega) (by omega)) (by rw [en _ (by omega) (by omega) (by omega)]; omega) (by rw [en _ (by omega) (by omega) (by omega)]; omega) (fun c hc _ => en _ (by omega) (by omega) (by omega))
  · exact G.capC (fun i h1 h2 => en _ (by omega) (by omega) (by omega)) (en _ (by omega) (by omega) (by omega)) (fun c hc => by unfold gl; rw [en _ (by omega) (by omega) (by omega)]; omega)
theorem gAL_ok (G : GI K g) {h o p s : Int} (hh : 1 ≤ h ∧ h ≤ 60) (ho : 0 ≤ o ∧ o ≤ 59) (hp : 1 ≤ p ∧ p ≤ 9) (hs : 1 ≤ s ∧ s ≤ 20) (h5 : g 2 < 5) : GI K (gAL g h o p s) := by
  have h0 := G.ln
  obtain ⟨L, hL⟩ := Int.eq_ofNat_of_zero_le h0.1
  have e0 : gAL g h o p s 2 = g 2 + 1 := upf_eq _ _ _
  have en : ∀ i, i ≠ 2 → (i < 132 + 16 * L ∨ 132 + 16 * L + 2 < i) → i ≠ 132 + 16 * L + 4 → gAL g h o p s i = g i := fun i h1 h2 h3 => by
    unfold gAL; rw [hL, Int.toNat_natCast, upf_ne h1, upf_ne h3, upf_ne (by omega), upf_ne (by omega), upf_ne (by omega)]
  have eL : ∀ w, gl (gAL g h o p s) L w = if w = 0 then h else if w = 1 then o else if w = 2 then p else if w = 4 then s else gl g L w := fun w => by
    unfold gl gAL upf
    rw [hL, Int.toNat_natCast]
    repeat' split
    all_goals first | rfl | omega
  have oL := (G.li L (by omega)).off (by omega)
  have LL := G.li L (by omega)
  apply GI.mk
  · rw [en _ (by omega) (by omega) (by omega)]; exact G.st
  · rw [en _ (by omega) (by omega) (by omega)]; exact G.wk
  · rw [e0]; omega
  · rw [en _ (by omega) (by omega) (by omega)]; exact G.tk
  · rw [en _ (by omega) (by omega) (by omega)]; exact G.nx
  · rw [en _ (by omega) (by omega) (by omega)]; exact G.mi
  · rw [en _ (by omega) (by omega) (by omega)]; exact G.ra
  · rw [en _ (by omega) (by omega) (by omega)]; exact G.ic
  · rw [en _ (by omega) (by omega) (by omega)]; exact G.rf
  · rw [en _ (by omega) (by omega) (by omega)]; exact G.us
  · exact G.trC (fun i h1 h2 => en _ (by omega) (by omega) (by omega))
  · exact G.clC (fun i h1 h2 => en _ (by omega) (by omega) (by omega))
  · exact G.coC (fun i h1 h2 => en _ (by omega) (by omega) (by omega)) (by rw [en _ (by omega) (by omega) (by omega)]; omega)
  · exact G.wlC (fun i h1 h2 => en _ (by omega) (by omega) (by omega))
  · intro c hc
    by_cases q : c = L
    · subst q
      have f5 : gl (gAL g h o p s) c 5 = 0 := by rw [eL]; exact oL.2.1
      apply GL.mk
      · rw [eL]; exact ⟨by omega, hh.2⟩
      · rw [eL]; exact ho
      · rw [eL]; exact ⟨by omega, hp.2⟩
      · rw [eL]; exact LL.dl
      · rw [eL]; exact ⟨by omega, hs.2⟩
      · rw [f5]; omega
      · rw [eL]; exact LL.su
      · intro k hk; rw [f5] at hk; omega
      · intro k j hk; rw [f5] at hk; omega
      · intro _; rw [eL, eL, eL]; exact ⟨hh.1, hp.1, hs.1⟩
      · intro h1; rw [e0] at h1; omega
    · exact (G.li c hc).congr (fun w hw => en _ (by omega) (by omega) (by omega)) (by rw [en _ (by omega) (by omega) (by omega)]; omega) (by rw [e0]; omega)
  · refine G.tiC (fun i h1 h2 => en _ (by omega) (by omega) (by omega)) (en _ (by omega) (by omega) (by omega)) (by rw [en _ (by omega) (by omega) (by omega)]; omega) (by rw [e0]; omega) (fun c hc hk => ?_)
    obtain ⟨k, h1, h2⟩ := hk
    have := (G.ti k h1).ln
    exact en _ (by omega) (by omega) (by omega)
  · intro c hc t hh
    rw [sold_congr G.tk.2 (fun i h1 h2 => en _ (by omega) (by omega) (by omega)) (en _ (by omega) (by omega) (by omega))]
    by_cases q : c = L
    · subst q
      -- no ticket of a line that is not there
      have z : sold g c t hh = 0 := by
        unfold sold
        have aux : ∀ n : Nat, (n : Int) ≤ g 3 → ctk (fun k => decide (gt g k 1 = (c : Int) ∧ gt g k 2 = t ∧ gt g k 3 ≤ hh ∧ hh < gt g k 4)) n = 0 := by
          intro n
          induction n with
          | zero => intro _; rfl
          | succ n ih =>
            intro hn
            have h1 := (G.ti n (by omega)).ln
            rw [ctk, ih (by omega), if_neg (by simp; omega)]; rfl
        exact aux _ (by have := G.tk; omega)
      rw [z, eL]
      show 0 ≤ s
      omega
    · have := G.cap c hc t hh
      unfold gl at this ⊢; rw [en _ (by omega) (by omega) (by omega)]; exact this
theorem gEx_ok (G : GI K g) {c : Nat} {s : Int} (hc : (c : Int) < g 2) (hs : 0 ≤ s ∧ s < g 0) (h6 : gl g c 5 < 6) (h0 : tof g c = 0) (hp : pla g c s = -1) : GI K (gEx g c s) := by
  have hc5 : c < 5 := by have := G.ln; omega
  have L := G.li c hc5
  have sz := L.sz
  obtain ⟨z, hz⟩ := Int.eq_ofNat_of_zero_le sz.1
  have e5 : gl (gEx g c s) c 5 = gl g c 5 + 1 := by unfold gEx; exact upf_eq _ _ _
  have en : ∀ i, i ≠ 132 + 16 * c + 5 → i ≠ 132 + 16 * c + (7 + z) → gEx g c s i = g i := fun i h1 h2 => by unfold gEx; rw [hz, Int.toNat_natCast, upf_ne h1, upf_ne h2]
  have es : gl (gEx g c s) c (7 + z) = s := by unfold gl gEx; rw [hz, Int.toNat_natCast, upf_ne (by omega), upf_eq]
  have eL : ∀ w, w ≠ 5 → w ≠ 7 + z → gl (gEx g c s) c w = gl g c w := fun w h1 h2 => by unfold gl; rw [en _ (by omega) (by omega)]
  have nop : ∀ p : Nat, (p : Int) < gl g c 5 → gl g c (7 + p) ≠ s := fun p hp2 => by
    unfold pla at hp
    rcases ffd_cases (fun p => decide (gl g c (7 + p) = s)) (gl g c 5).toNat with ⟨-, h⟩ | ⟨k, h1, h2, h3, h4⟩
    · simpa using h p (by omega)
    · omega
  apply GI.mk
  · rw [en _ (by omega) (by omega)]; exact G.st
  · rw [en _ (by omega) (by omega)]; exact G.wk
  · rw [en _ (by omega) (by omega)]; exact G.ln
  · rw [en _ (by omega) (by omega)]; exact G.tk
  · rw [en _ (by omega) (by omega)]; exact G.nx
  · rw [en _ (by omega) (by omega)]; exact G.mi
  · rw [en _ (by omega) (by omega)]; exact G.ra
  · rw [en _ (by omega) (by omega)]; exact G.ic
  · rw [en _ (by omega) (by omega)]; exact G.rf
  · rw [en _ (by omega) (by omega)]; exact G.us
  · exact G.trC (fun i h1 h2 => en _ (by omega) (by omega))
  · exact G.clC (fun i h1 h2 => en _ (by omega) (by omega))
  · exact G.coC (fun i h1 h2 => en _ (by omega) (by omega)) (by rw [en _ (by omega) (by omega)]; omega)
  · exact G.wlC (fun i h1 h2 => en _ (by omega) (by omega))
  · intro d hd
    by_cases q : d = c
    · subst q
      apply GL.mk
      · rw [eL _ (by omega) (by omega)]; exact L.hw
      · rw [eL _ (by omega) (by omega)]; exact L.of
      · rw [eL _ (by omega) (by omega)]; exact L.hp
      · rw [eL _ (by omega) (by omega)]; exact L.dl
      · rw [eL _ (by omega) (by omega)]; exact L.se
      · rw [e5]; omega
      · rw [eL _ (by omega) (by omega)]; exact L.su
      · intro p hp2
        rw [e5] at hp2
        rw [en 0 (by omega) (by omega)]
        by_cases r : p = z
        · subst r; rw [es]; exact hs
        · rw [eL _ (by omega) (by omega)]; exact L.rg p (by omega)
      · intro p r hp2 hr
        rw [e5] at hp2 hr
        by_cases r1 : p = z
        · by_cases r2 : r = z
          · intro _; omega
          · subst r1; rw [es, eL _ (by omega) (by omega)]
            intro h; exact absurd h.symm (nop r (by omega))
        · by_cases r2 : r = z
          · subst r2; rw [es, eL _ (by omega) (by omega)]
            intro h; exact absurd h (nop p (by omega))
          · rw [eL _ (by omega) (by omega), eL _ (by omega) (by omega)]
            exact L.ds p r (by omega) (by omega)
      · intro _; rw [eL _ (by omega) (by omega), eL _ (by omega) (by omega), eL _ (by omega) (by omega)]; exact L.on hc
      · intro h1; rw [en 2 (by omega) (by omega)] at h1; omega
    · exact (G.li d hd).congr (fun w hw => en _ (by omega) (by omega)) (by rw [en _ (by omega) (by omega)]; omega) (by rw [en _ (by omega) (by omega)]; omega)
  · refine G.tiC (fun i h1 h2 => en _ (by omega) (by omega)) (en _ (by omega) (by omega)) (by rw [en _ (by omega) (by omega)]; omega) (by rw [en _ (by omega) (by omega)]; omega) (fun d hd hk => ?_)
    obtain ⟨k, h1, h2⟩ := hk
    have := tof0 h0 k h1
    exact en _ (by omega) (by omega)
  · refine G.capC (fun i h1 h2 => en _ (by omega) (by omega)) (en _ (by omega) (by omega)) (fun d hd => ?_)
    unfold gl; rw [en _ (by omega) (by omega)]; omega
theorem gSh_ok (G : GI K g) {c : Nat} (hc : (c : Int) < g 2) (h6 : gl g c 5 ≠ 0) (h0 : tof g c = 0) : GI K (gSh g c) := by
  have hc5 : c < 5 := by have := G.ln; omega
  have L := G.li c hc5
  have sz := L.sz
  obtain ⟨z, hz⟩ := Int.eq_ofNat_of_zero_le (show 0 ≤ gl g c 5 - 1 by omega)
  have e5 : gl (gSh g c) c 5 = gl g c 5 - 1 := by unfold gSh; exact upf_eq _ _ _
  have en : ∀ i, i ≠ 132 + 16 * c + 5 → i ≠ 132 + 16 * c + (7 + z) → gSh g c i = g i := fun i h1 h2 => by unfold gSh; rw [hz, Int.toNat_natCast, upf_ne h1, upf_ne h2]
  have eL : ∀ w, w ≠ 5 → w ≠ 7 + z → gl (gSh g c) c w = gl g c w := fun w h1 h2 => by unfold gl; rw [en _ (by omega) (by omega)]
  apply GI.mk
  · rw [en _ (by omega) (by omega)]; exact G.st
  · rw [en _ (by omega) (by omega)]; exact G.wk
  · rw [en _ (by omega) (by omega)]; exact G.ln
  · rw [en _ (by omega) (by omega)]; exact G.tk
  · rw [en _ (by omega) (by omega)]; exact G.nx
  · rw [en _ (by omega) (by omega)]; exact G.mi
  · rw [en _ (by omega) (by omega)]; exact G.ra
  · rw [en _ (by omega) (by omega)]; exact G.ic
  · rw [en _ (by omega) (by omega)]; exact G.rf
  · rw [en _ (by omega) (by omega)]; exact G.us
  · exact G.trC (fun i h1 h2 => en _ (by omega) (by omega))
  · exact G.clC (fun i h1 h2 => en _ (by omega) (by omega))
  · exact G.coC (fun i h1 h2 => en _ (by omega) (by omega)) (by rw [en _ (by omega) (by omega)]; omega)
  · exact G.wlC (fun i h1 h2 => en _ (by omega) (by omega))
  · intro d hd
    by_cases q : d = c
    · subst q
      apply GL.mk
      · rw [eL _ (by omega) (by omega)]; exact L.hw
      · rw [eL _ (by omega) (by omega)]; exact L.of
      · rw [eL _ (by omega) (by omega)]; exact L.hp
      · rw [eL _ (by omega) (by omega)]; exact L.dl
      · rw [eL _ (by omega) (by omega)]; exact L.se
      · rw [e5]; omega
      · rw [eL _ (by omega) (by omega)]; exact L.su
      · intro p hp2
        rw [e5] at hp2
        rw [en 0 (by omega) (by omega), eL _ (by omega) (by omega)]; exact L.rg p (by omega)
      · intro p r hp2 hr
        rw [e5] at hp2 hr
        rw [eL _ (by omega) (by omega), eL _ (by omega) (by omega)]
        exact L.ds p r (by omega) (by omega)
      · intro _; rw [eL _ (by omega) (by omega), eL _ (by omega) (by omega), eL _ (by omega) (by omega)]; exact L.on hc
      · intro h1; rw [en 2 (by omega) (by omega)] at h1; omega
    · exact (G.li d hd).congr (fun w hw => en _ (by omega) (by omega)) (by rw [en _ (by omega) (by omega)]; omega) (by rw [en _ (by omega) (by omega)]; omega)
  · refine G.tiC (fun i h1 h2 => en _ (by omega) (by omega)) (en _ (by omega) (by omega)) (by rw [en _ (by omega) (by omega)]; omega) (by rw [en _ (by omega) (by omega)]; omega) (fun d hd hk => ?_)
    obtain ⟨k, h1, h2⟩ := hk
    have := tof0 h0 k h1
    exact en _ (by omega) (by omega)
  · refine G.capC (fun i h1 h2 => en _ (by omega) (by omega)) (en _ (by omega) (by omega)) (fun d hd => ?_)
    unfold gl; rw [en _ (by omega) (by omega)]; omega
/-- one cell of the stops or of a line, or the rain -/
theorem gRain_ok (G : GI K g) {v : Int} (hv : bit v) : GI K (upf g 6 v) := by
  have en : ∀ i, i ≠ 6 → upf g 6 v i = g i := fun i h => upf_ne h
  apply GI.mk
  · rw [en _ (by omega)]; exact G.st
  · rw [en _ (by omega)]; exact G.wk
  · rw [en _ (by omega)]; exact G.ln
  · rw [en _ (by omega)]; exact G.tk
  · rw [en _ (by omega)]; exact G.nx
  · rw [en _ (by omega)]; exact G.mi
  · rw [upf_eq]; exact hv
  · rw [en _ (by omega)]; exact G.ic
  · rw [en _ (by omega)]; exact G.rf
  · rw [en _ (by omega)]; exact G.us
  · exact G.trC (fun i h1 h2 => en _ (by omega))
  · exact G.clC (fun i h1 h2 => en _ (by omega))
  · exact G.coC (fun i h1 h2 => en _ (by omega)) (by rw [en _ (by omega)]; omega)
  · exact G.wlC (fun i h1 h2 => en _ (by omega))
  · exact G.liC (fun i h1 h2 => en _ (by omega)) (by rw [en _ (by omega)]; omega) (en _ (by omega))
  · exact G.tiC (fun i h1 h2 => en _ (by omega)) (en _ (by omega)) (by rw [en _ (by omega)]; omega) (by rw [en _ (by omega)]; omega) (fun c hc _ => en _ (by omega))
  · exact G.capC (fun i h1 h2 => en _ (by omega)) (en _ (by omega)) (fun c hc => by unfold gl; rw [en _ (by omega)]; omega)
theorem gCl_ok (G : GI K g) {j : Nat} {v : Int} (hj : (j : Int) < g 0) (hv : bit v) : GI K (upf g (13 + 2 * j) v) := by
  have h0 := G.st
  have en : ∀ i, i ≠ 13 + 2 * j → upf g (13 + 2 * j) v i = g i := fun i h => upf_ne h
  apply GI.mk
  · rw [en _ (by omega)]; exact G.st
  · rw [en _ (by omega)]; exact G.wk
  · rw [en _ (by omega)]; exact G.ln
  · rw [en _ (by omega)]; exact G.tk
  · rw [en _ (by omega)]; exact G.nx
  · rw [en _ (by omega)]; exact G.mi
  · rw [en _ (by omega)]; exact G.ra
  · rw [en _ (by omega)]; exact G.ic
  · rw [en _ (by omega)]; exact G.rf
  · rw [en _ (by omega)]; exact G.us
  · intro i hi; rw [en _ (by omega)]; exact G.tr i hi
  · intro i hi
    by_cases q : i = j
    · subst q; rw [upf_eq]; exact hv
    · rw [en _ (by omega)]; exact G.cl i hi
  · intro i hi h1
    rw [en 0 (by omega)] at h1
    rw [en _ (by omega)]; exact G.co i hi h1
  · exact G.wlC (fun i h1 h2 => en _ (by omega))
  · exact G.liC (fun i h1 h2 => en _ (by omega)) (by rw [en _ (by omega)]; omega) (en _ (by omega))
  · exact G.tiC (fun i h1 h2 => en _ (by omega)) (en _ (by omega)) (by rw [en _ (by omega)]; omega) (by rw [en _ (by omega)]; omega) (fun c hc _ => en _ (by omega))
  · exact G.capC (fun i h1 h2 => en _ (by omega)) (en _ (by omega)) (fun c hc => by unfold gl; rw [en _ (by omega)]; omega)
theorem gLn_ok (G : GI K g) {d w : Nat} {v : Int} (hd : (d : Int) < g 2) (hv : (w = 3 ∧ 0 ≤ v ∧ v ≤ 5) ∨ (w = 6 ∧ bit v)) : GI K (upf g (132 + 16 * d + w) v) := by
  have h0 := G.ln
  have en : ∀ i, i ≠ 132 + 16 * d + w → upf g (132 + 16 * d + w) v i = g i := fun i h => upf_ne h
  apply GI.mk
  · rw [en _ (by omega)]; exact G.st
  · rw [en _ (by omega)]; exact G.wk
  · rw [en _ (by omega)]; exact G.ln
  · rw [en _ (by omega)]; exact G.tk
  · rw [en _ (by omega)]; exact G.nx
  · rw [en _ (by omega)]; exact G.mi
  · rw [en _ (by omega)]; exact G.ra
  · rw [en _ (by omega)]; exact G.ic
  · rw [en _ (by omega)]; exact G.rf
  · rw [en _ (by omega)]; exact G.us
  · exact G.trC (fun i h1 h2 => en _ (by omega))
  · exact G.clC (fun i h1 h2 => en _ (by omega))
  · exact G.coC (fun i h1 h2 => en _ (by omega)) (by rw [en _ (by omega)]; omega)
  · exact G.wlC (fun i h1 h2 => en _ (by omega))
  · intro c hc
    by_cases q : c = d
    · subst q
      have L := G.li c hc
      have eL : ∀ x, x ≠ w → gl (upf g (132 + 16 * c + w) v) c x = gl g c x := fun x h => by unfold gl; rw [en _ (by omega)]
      have ew : gl (upf g (132 + 16 * c + w) v) c w = v := upf_eq _ _ _
      apply GL.mk
      · rw [eL _ (by omega)]; exact L.hw
      · rw [eL _ (by omega)]; exact L.of
      · rw [eL _ (by omega)]; exact L.hp
      · rcases hv with ⟨rfl, h⟩ | ⟨rfl, h⟩
        · rw [ew]; exact h
        · rw [eL _ (by omega)]; exact L.dl
      · rw [eL _ (by omega)]; exact L.se
      · rw [eL _ (by omega)]; exact L.sz
      · rcases hv with ⟨rfl, h⟩ | ⟨rfl, h⟩
        · rw [eL _ (by omega)]; exact L.su
        · rw [ew]; exact h
      · intro p hp
        rw [eL _ (by omega)] at hp
        rw [eL _ (by omega), en 0 (by omega)]; exact L.rg p hp
      · intro p r hp hr
        rw [eL _ (by omega)] at hp hr
        rw [eL _ (by omega), eL _ (by omega)]; exact L.ds p r hp hr
      · intro h1
        rw [eL _ (by omega), eL _ (by omega), eL _ (by omega)]; exact L.on hd
      · intro h1; rw [en 2 (by omega)] at h1; omega
    · exact (G.li c hc).congr (fun x hx => en _ (by omega)) (by rw [en _ (by omega)]; omega) (by rw [en _ (by omega)]; omega)
  · refine G.tiC (fun i h1 h2 => en _ (by omega)) (en _ (by omega)) (by rw [en _ (by omega)]; omega) (by rw [en _ (by omega)]; omega) (fun c hc _ => by unfold gl; rw [en _ (by omega)])
  · exact G.capC (fun i h1 h2 => en _ (by omega)) (en _ (by omega)) (fun c hc => by unfold gl; rw [en _ (by omega)]; omega)
end GCH
