/-! agreement of class and model, part 88 -/
/-! advance -/
section AV
variable {b : Nat} {σ μ : Sm} {g g' : Ga} {K : Int} {N p : Nat}
theorem due_eq (h : ∀ i, (132 ≤ i ∧ i < 212) ∨ i = 6 → g' i = g i) {T : Tk} (hT : T.2.1.toNat < 5) : due g' T = due g T := by
  unfold due whn hopm gl
  rw [h 6 (by omega), h _ (by omega), h _ (by omega), h _ (by omega), h _ (by omega)]
theorem tkl_ln (G : GI K g) {T : Tk} (hT : T ∈ tkl g) : T.2.1.toNat < 5 := by
  unfold tkl at hT
  obtain ⟨k, h1, rfl⟩ := List.mem_map.mp hT
  have h1 := List.mem_range.mp h1
  have := (G.ti k (by omega)).ln
  have := G.ln
  unfold tup
  dsimp only
  omega
def lft (L : List Tk) (g : Ga) (i : Nat) : List Tk := if i = 0 then L else L.filter (fun T => g 5 + (i : Int) < due g T)
theorem m_advances (G : GI K (μ 1)) (hN : 340 < N) (hK : 0 ≤ K ∧ K ≤ 900000) {m : Nat} (hm : 1 ≤ m ∧ m ≤ 120) : ∃ μ', f_X13_advances N μ m = some (μ', ((tkl (μ 1)).length : Int) - ((tkl (μ 1)).filter (fun T => μ 1 5 + m < due (μ 1) T)).length) ∧ (∀ r, r ≠ 1 → μ' r = μ r) ∧ GI (K + 1) (μ' 1) ∧ tkl (μ' 1) = (tkl (μ 1)).filter (fun T => μ 1 5 + m < due (μ 1) T) ∧ ∀ i, i < 212 → i ≠ 3 → μ' 1 i = upf (upf (μ 1) 5 (μ 1 5 + m)) 9 (μ 1 9 + (((tkl (μ 1)).length : Int) - ((tkl (μ 1)).filter (fun T => μ 1 5 + m < due (μ 1) T)).length)) i := by
  have hmi := G.mi
  have hus := G.us
  have h16 := G.tk
  have hL : (tkl (μ 1)).length = (μ 1 3).toNat := tkl_len
  have lle : ∀ i, (lft (tkl (μ 1)) (μ 1) i).length ≤ (tkl (μ 1)).length := fun i => by
    unfold lft; split
    · exact Nat.le_refl _
    · exact List.length_filter_le _ _
  obtain ⟨a', ⟨q1, q2, q3, q4, q5, q6, q7⟩, e⟩ := lp_inv (fun n (a : Sm × Int) k => f_X13_advances_4 N m n a.1 a.2 k) id (fun i a => (∀ r, r ≠ 1 → a.1 r = μ r) ∧ GI (K + 1) (a.1 1) ∧ tkl (a.1 1) = lft (tkl (μ 1)) (μ 1) i ∧ a.1 1 5 = μ 1 5 + i ∧ a.1 1 9 = μ 1 9 + a.2 ∧ (∀ j, j < 212 → j ≠ 3 → j ≠ 5 → j ≠ 9 → a.1 1 j = μ 1 j) ∧ a.2 = ((tkl (μ 1)).length : Int) - (lft (tkl (μ 1)) (μ 1) i).length) m (fun n a hP => by
      show f_X13_advances_4 N m (n + 1) a.1 a.2 (m : Int) = _
      rw [f_X13_advances_4, if_pos (by omega)]; rfl) (fun n k a hk hP => by
      obtain ⟨q1, q2, q3, q4, q5, q6, q7⟩ := hP
      have hle := lle k
      have l1 : (tkl (a.1 1)).length = (lft (tkl (μ 1)) (μ 1) k).length := by rw [q3]
      obtain ⟨s, p1, p2, p3, p4, p5⟩ := m_passes (μ := a.1) (N := N) q2 hN (by omega) (by omega) (by omega)
      have fe : (tkl (a.1 1)).filter (fun T => a.1 1 5 + 1 < due (a.1 1) T) = lft (tkl (μ 1)) (μ 1) (k + 1) := by
        have e1 : (tkl (a.1 1)).filter (fun T => decide (a.1 1 5 + 1 < due (a.1 1) T)) = (tkl (a.1 1)).filter (fun T => decide (μ 1 5 + ((k + 1 : Nat) : Int) < due (μ 1) T)) := List.filter_congr (fun T hT => by
          rw [due_eq (g := μ 1) (g' := a.1 1) (fun i hi => q6 i (by omega) (by omega) (by omega) (by omega)) (tkl_ln q2 hT), q4, show μ 1 5 + (k : Int) + 1 = μ 1 5 + ((k + 1 : Nat) : Int) by omega])
        rw [e1, q3]
        unfold lft
        rw [if_neg (show ¬ k + 1 = 0 by omega)]
        by_cases h0 : k = 0
        · rw [if_pos h0]
        · rw [if_neg h0, List.filter_filter]
          refine List.filter_congr (fun T _ => ?_)
          by_cases h1 : μ 1 5 + ((k + 1 : Nat) : Int) < due (μ 1) T
          · have h2 : μ 1 5 + (k : Int) < due (μ 1) T := by omega
            simp [h1, h2]
          · have h3 : ¬ (μ 1 5 + ((k : Int) + 1) < due (μ 1) T) := by omega
            simp [h3]
      rw [fe] at p1 p4 p5
      rw [l1] at p1 p5
      refine ⟨(s, a.2 + (((lft (tkl (μ 1)) (μ 1) k).length : Int) - (lft (tkl (μ 1)) (μ 1) (k + 1)).length)), ⟨fun r hr => (p2 r hr).trans (q1 r hr), p3, p4, ?_, ?_, fun j j1 j2 j3 j4 => ?_, ?_⟩, ?_⟩
      · show s 1 5 = _
        rw [p5 5 (by decide) (by decide), upf_ne (by decide), upf_eq, q4]; omega
      · show s 1 9 = _
        rw [p5 9 (by decide) (by decide), upf_eq, q5]; dsimp only; omega
      · show s 1 j = _
        rw [p5 j j1 j2, upf_ne j4, upf_ne j3]; exact q6 j j1 j2 j3 j4
      · dsimp only; omega
      · have hle2 := lle (k + 1)
        show f_X13_advances_4 N m (n + 1) a.1 a.2 (k : Int) = f_X13_advances_4 N m n s _ ((k + 1 : Nat) : Int)
        rw [f_X13_advances_4, if_neg (by omega), p1, Option.bind_some, bl_eq]
        dsimp only
        rw [if_pos (show rng (a.2 + (((lft (tkl (μ 1)) (μ 1) k).length : Int) - (lft (tkl (μ 1)) (μ 1) (k + 1)).length)) by unfold rng; omega)]; rfl) N 0 (μ, 0) (by omega) (by omega) ⟨fun _ _ => rfl, G.mono (by omega), rfl, by simp, by simp, fun _ _ _ _ _ => rfl, by unfold lft; simp⟩
  have lm : lft (tkl (μ 1)) (μ 1) m = (tkl (μ 1)).filter (fun T => μ 1 5 + (m : Int) < due (μ 1) T) := by unfold lft; rw [if_neg (by omega)]
  rw [lm] at q3 q7
  have key : f_X13_advances N μ m = some (a'.1, a'.2) := by
    unfold f_X13_advances
    rw [show f_X13_advances_4 N m N μ 0 0 = some a' from e, Option.bind_some]
  refine ⟨a'.1, by rw [key, q7], q1, q2, q3, fun i i1 i2 => ?_⟩
  by_cases h9 : i = 9
  · subst h9; rw [upf_eq, q5, q7]
  · by_cases h5 : i = 5
    · subst h5; rw [upf_ne (by decide), upf_eq, q4]
    · rw [upf_ne h9, upf_ne h5]; exact q6 i i1 i2 h5 h9
/-- class and model after minutes -/
theorem adv_ok (h : NR b σ (μ 1)) (G : GI K (μ 1)) (R : RW b σ) (hN : 340 < N) (hK : 0 ≤ K ∧ K ≤ 900000) {m : Int} (hm : 1 ≤ m ∧ m ≤ 120) : ∃ σ' μ' u, f_X8_pass N σ b m = some (σ', u) ∧ f_X13_advances N μ m = some (μ', u) ∧ NR b σ' (μ' 1) ∧ GI (K + 1) (μ' 1) ∧ offN b σ σ' ∧ RW b σ' ∧ ∀ r, r ≠ 1 → μ' r = μ r := by
  obtain ⟨n, rfl⟩ := Int.eq_ofNat_of_zero_le (show 0 ≤ m by omega)
  obtain ⟨σ', gc, c1, c2, c3, c4, c5, c6, c7⟩ := c_pass (N := N) h G R hm (by omega) (by omega)
  obtain ⟨μ', m1, m2, m3, m4, m5⟩ := m_advances (N := N) (m := n) G hN hK (by omega)
  refine ⟨σ', μ', _, c1, m1, ?_, m3, c4, c5, m2⟩
  have e := tkl_inj (m4.trans c6.symm) c3.tk.1 m3.tk.1
  refine c2.teq c3 c5 (fun i hi => ?_) e.2
  by_cases q : i = 3
  · subst q; exact e.1
  · rw [m5 i hi q, c7 i hi q]
theorem op_advance (I : INV K σ μ) (hK : K + 1 ≤ 80000) (hN : 340 < N) (x : Int) : OK2 (f_X12_advance N σ x) (f_X13_advance N μ x) (K + 1) [(2, 1)] := by
  have hkb := I.kb
  unfold f_X12_advance f_X13_advance
  rw [m_begin hN, Option.bind_some, m_in, Option.bind_some]
  by_cases h1 : 1 ≤ x ∧ x ≤ 120
  · have hz : zWt x = 0 := by unfold zWt; rw [if_pos h1]
    rw [if_pos h1, if_neg (by decide), cl_go (by rw [c_wtF, hz])]
    obtain ⟨σk, e1, e2, e3, e4⟩ := chg_ok I (show K ≤ K + 1 by omega) hK hN
    have e2' : NR 1 σk (bgn μ 1) := by rw [bg1]; exact e2
    obtain ⟨σ', μo, u, a1, a2, a3, a4, a5, a6, a7⟩ := adv_ok (N := N) (μ := bgn μ) (σ := σk) (b := 1) e2' (bgG I) (e3 1 (Or.inl rfl)) hN (by omega) h1
    obtain ⟨μ', c1, c2, c3⟩ := e4 σ' (μo 1) a3 a4 a5 a6 μo ⟨a7, rfl⟩ u
    refine ⟨σ', 0, u, μ', u, ?_, ?_, Or.inl ⟨rfl, c2, rfl⟩, c3⟩
    · rw [e1, Option.bind_some, a1, Option.bind_some]
    · rw [a2, Option.bind_some, c1, Option.bind_some]
  · have hz : zWt x = 2 := by unfold zWt; rw [if_neg h1]
    rw [if_neg h1, if_pos rfl, cl_ref (c_wtF x) (by rw [hz]; decide)]
    exact OK2.ref I hK rfl rfl (by rw [hz]; decide) (by rw [hz]; decide)
end AV
