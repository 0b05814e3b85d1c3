/-! the whole world that the constructors leave -/
def adF (q : Nat) (d1 d2 d3 : ND) (h hr : Nat) (ds : List ND) (tl : List Nat) (r : Nat) : Nat :=
  if r = 0 then q else if r < 34 then nad d1 (r - 1) else if r < 67 then nad d2 (r - 34) else if r < 100 then nad d3 (r - 67) else if r = 100 then h else if r = 101 then hr else if r < 366 then nad (ds.getD ((r - 102) / 33) d1) ((r - 102) % 33) else tl.getD (r - 366) 0
section ADF
variable {q : Nat} {d1 d2 d3 : ND} {h hr : Nat} {ds : List ND} {tl : List Nat}
theorem ad_1 : ∀ j, j < 33 → adF q d1 d2 d3 h hr ds tl (1 + j) = nad d1 j := fun j hj => by
  unfold adF
  rw [if_neg (by omega), if_pos (by omega), show 1 + j - 1 = j by omega]
theorem ad_2 : ∀ j, j < 33 → adF q d1 d2 d3 h hr ds tl (34 + j) = nad d2 j := fun j hj => by
  unfold adF
  rw [if_neg (by omega), if_neg (by omega), if_pos (by omega), show 34 + j - 34 = j by omega]
theorem ad_3 : ∀ j, j < 33 → adF q d1 d2 d3 h hr ds tl (67 + j) = nad d3 j := fun j hj => by
  unfold adF
  rw [if_neg (by omega), if_neg (by omega), if_neg (by omega), if_pos (by omega), show 67 + j - 67 = j by omega]
theorem ad_h (b k : Nat) (hb : b = 102 + 33 * k) (hk : k < 8) : ∀ j, j < 33 → adF q d1 d2 d3 h hr ds tl (b + j) = nad (ds.getD k d1) j := fun j hj => by
  subst hb
  unfold adF
  rw [if_neg (by omega), if_neg (by omega), if_neg (by omega), if_neg (by omega), if_neg (by omega), if_neg (by omega), if_pos (by omega), show (102 + 33 * k + j - 102) / 33 = k by omega, show (102 + 33 * k + j - 102) % 33 = j by omega]
theorem ad_t (b i : Nat) (hb : b = 366 + i) : adF q d1 d2 d3 h hr ds tl b = tl.getD i 0 := by
  subst hb
  unfold adF
  rw [if_neg (by omega), if_neg (by omega), if_neg (by omega), if_neg (by omega), if_neg (by omega), if_neg (by omega), if_neg (by omega), show 366 + i - 366 = i by omega]
end ADF
theorem kdN_1 : ∀ j, j < 33 → kd (1 + j) = kdN.getD j 99 := by decide +kernel
theorem kdN_2 : ∀ j, j < 33 → kd (34 + j) = kdN.getD j 99 := by decide +kernel
theorem kdN_3 : ∀ j, j < 33 → kd (67 + j) = kdN.getD j 99 := by decide +kernel
theorem kdN_h0 : ∀ j, j < 33 → kd (102 + j) = kdN.getD j 99 := by decide +kernel
theorem kdN_h1 : ∀ j, j < 33 → kd (135 + j) = kdN.getD j 99 := by decide +kernel
theorem kdN_h2 : ∀ j, j < 33 → kd (168 + j) = kdN.getD j 99 := by decide +kernel
theorem kdN_h3 : ∀ j, j < 33 → kd (201 + j) = kdN.getD j 99 := by decide +kernel
theorem kdN_h4 : ∀ j, j < 33 → kd (234 + j) = kdN.getD j 99 := by decide +kernel
theorem kdN_h5 : ∀ j, j < 33 → kd (267 + j) = kdN.getD j 99 := by decide +kernel
theorem kdN_h6 : ∀ j, j < 33 → kd (300 + j) = kdN.getD j 99 := by decide +kernel
theorem kdN_h7 : ∀ j, j < 33 → kd (333 + j) = kdN.getD j 99 := by decide +kernel
theorem kd_tl : kd 0 = 12 ∧ kd 1 = 8 ∧ kd 34 = 8 ∧ kd 67 = 8 ∧ kd 100 = 6 ∧ kd 101 = 29 ∧ kd 102 = 8 ∧ kd 135 = 8 ∧ kd 168 = 8 ∧ kd 201 = 8 ∧ kd 234 = 8 ∧ kd 267 = 8 ∧ kd 300 = 8 ∧ kd 333 = 8 ∧ kd 366 = 1 ∧ kd 367 = 20 ∧ kd 368 = 20 ∧ kd 369 = 25 ∧ kd 370 = 25 ∧ kd 371 = 1 ∧ kd 372 = 20 ∧ kd 373 = 20 ∧ kd 374 = 25 ∧ kd 375 = 25 ∧ kd 376 = 2 ∧ kd 377 = 20 ∧ kd 378 = 21 ∧ kd 379 = 5 ∧ kd 380 = 21 ∧ kd 381 = 20 ∧ kd 382 = 20 ∧ kd 383 = 23 ∧ kd 384 = 23 ∧ kd 385 = 23 ∧ kd 386 = 9 ∧ kd 387 = 26 ∧ kd 388 = 30 ∧ kd 389 = 24 ∧ kd 390 = 40 := by decide +kernel
theorem wlc_sg {cy : Nat → ClassId} {ad : Nat → Nat} {E : Nat → Nat → Nat} {ab : Nat} : wlc cy ad E (s0 ab) = fF cy ad E ab 0 :: (sg (fF cy ad E ab) 1 33 ++ (sg (fF cy ad E ab) 34 33 ++ (sg (fF cy ad E ab) 67 33 ++ ((fF cy ad E ab 100 :: fF cy ad E ab 101 :: ((sg (fF cy ad E ab) 102 33 ++ (sg (fF cy ad E ab) 135 33 ++ (sg (fF cy ad E ab) 168 33 ++ (sg (fF cy ad E ab) 201 33 ++ (sg (fF cy ad E ab) 234 33 ++ (sg (fF cy ad E ab) 267 33 ++ (sg (fF cy ad E ab) 300 33 ++ (sg (fF cy ad E ab) 333 33 ++ [])))))))))) ++ (([fF cy ad E ab 366, fF cy ad E ab 367, fF cy ad E ab 368, fF cy ad E ab 369, fF cy ad E ab 370, fF cy ad E ab 371, fF cy ad E ab 372, fF cy ad E ab 373, fF cy ad E ab 374, fF cy ad E ab 375, fF cy ad E ab 376, fF cy ad E ab 377, fF cy ad E ab 378, fF cy ad E ab 379, fF cy ad E ab 380, fF cy ad E ab 381, fF cy ad E ab 382, fF cy ad E ab 383, fF cy ad E ab 384, fF cy ad E ab 385, fF cy ad E ab 386, fF cy ad E ab 387, fF cy ad E ab 388, fF cy ad E ab 389, fF cy ad E ab 390] : va_W) ++ [(ab, .inl (cy 7, 16, .inl (fun _ => 0)))]))))) := by
  have e0 : (List.range 391).map (fun r => (ad r, entK cy ad E (kd r) r (s0 ab r))) = sg (fF cy ad E ab) 0 391 := by
    unfold sg
    apply List.map_congr_left
    intro r _
    rw [Nat.zero_add]
    rfl
  have e1 : ((s0 ab 390 0).toNat, (.inl (cy 7, (s0 ab 390 9).toNat, .inl (fun j => Int32.ofInt (s0 ab 391 j))) : va_E)) = (ab, .inl (cy 7, 16, .inl (fun _ => 0))) := by
    have h0 : s0 ab 390 0 = (ab : Int) := rfl
    have h9 : s0 ab 390 9 = 16 := rfl
    have h1 : ∀ j, s0 ab 391 j = 0 := fun j => rfl
    rw [h0, h9]
    simp only [h1]
    rfl
  unfold wlc
  rw [e0, e1, show (391 : Nat) = 1 + (33 + (33 + (33 + (2 + (33 + (33 + (33 + (33 + (33 + (33 + (33 + (33 + 25)))))))))))) from rfl]
  repeat rw [sg_app]
  simp only [List.append_assoc, List.append_nil, List.cons_append, List.nil_append]
  rfl
section CLS
variable {G : va_G} {cy : Nat → ClassId} {E : Nat → Nat → Nat} {q o1 o2 o3 o4 o5 o6 o7 o8 o9 o10 : Nat} {w1 w2 w3 w4 w5 w6 w7 w8 w9 w10 : va_W}
theorem cls_wq (h1 : R12_0 cy E o1 w1) (h2 : R12_1 cy E o2 w2) (h3 : R12_2 cy E o3 w3) (h4 : R12_3 cy E o4 w4) (h5 : R12_4 cy E o5 w5) (h6 : R12_5 cy E o6 w6) (h7 : R12_6 cy E o7 w7) (h8 : R12_7 cy E o8 w8) (h9 : R12_8 cy E o9 w9) (h10 : R12_9 cy E o10 w10) :
    ∃ (ad : Nat → Nat) (ab : Nat), ad 0 = q ∧ WQ G ((q, .inr (13, [.ref o1, .ref o2, .ref o3, vi 0, .ref o4, .ref o5, .ref o6, .ref o7, .ref o8, .ref o9, vi (-1), vi (-1), .ref o10])) :: ([] ++ w1 ++ w2 ++ w3 ++ w4 ++ w5 ++ w6 ++ w7 ++ w8 ++ w9 ++ w10)) (wlc cy ad E (s0 ab)) := by
  obtain ⟨d1, rfl, g1', rfl⟩ := h1
  obtain ⟨d2, rfl, g2', rfl⟩ := h2
  obtain ⟨d3, rfl, g3', rfl⟩ := h3
  obtain ⟨hr, ds, hl, hg, rfl⟩ := h4
  obtain ⟨a1, a2, a3, a4, rfl⟩ := h5
  obtain ⟨b1, b2, b3, b4, rfl⟩ := h6
  obtain ⟨c1, c2, rfl⟩ := h7
  obtain ⟨f1, f2, f3, f4, f5, f6, rfl⟩ := h8
  obtain ⟨g1, g2, g3, rfl⟩ := h9
  obtain ⟨ab, rfl⟩ := h10
  obtain ⟨e0, e1, e2, e3, e4, e5, e6, e7, rfl⟩ := len8 hl
  have hg0 := hg e0 (by simp)
  have hg1 := hg e1 (by simp)
  have hg2 := hg e2 (by simp)
  have hg3 := hg e3 (by simp)
  have hg4 := hg e4 (by simp)
  have hg5 := hg e5 (by simp)
  have hg6 := hg e6 (by simp)
  have hg7 := hg e7 (by simp)
  obtain ⟨ad, had⟩ : ∃ ad, ad = adF q d1 d2 d3 o4 hr [e0, e1, e2, e3, e4, e5, e6, e7] [o5, a1, a2, a3, a4, o6, b1, b2, b3, b4, o7, c1, c2, o8, f1, f2, f3, f4, f5, f6, o9, g1, g2, g3, o10] := ⟨_, rfl⟩
  refine ⟨ad, ab, by rw [had]; rfl, ?_⟩
  have n1 : ∀ j, j < 33 → ad (1 + j) = nad d1 j := by rw [had]; exact ad_1
  have n2 : ∀ j, j < 33 → ad (34 + j) = nad d2 j := by rw [had]; exact ad_2
  have n3 : ∀ j, j < 33 → ad (67 + j) = nad d3 j := by rw [had]; exact ad_3
  have m0 : ∀ j, j < 33 → ad (102 + j) = nad e0 j := by rw [had]; exact ad_h 102 0 rfl (by decide)
  have m1 : ∀ j, j < 33 → ad (135 + j) = nad e1 j := by rw [had]; exact ad_h 135 1 rfl (by decide)
  have m2 : ∀ j, j < 33 → ad (168 + j) = nad e2 j := by rw [had]; exact ad_h 168 2 rfl (by decide)
  have m3 : ∀ j, j < 33 → ad (201 + j) = nad e3 j := by rw [had]; exact ad_h 201 3 rfl (by decide)
  have m4 : ∀ j, j < 33 → ad (234 + j) = nad e4 j := by rw [had]; exact ad_h 234 4 rfl (by decide)
  have m5 : ∀ j, j < 33 → ad (267 + j) = nad e5 j := by rw [had]; exact ad_h 267 5 rfl (by decide)
  have m6 : ∀ j, j < 33 → ad (300 + j) = nad e6 j := by rw [had]; exact ad_h 300 6 rfl (by decide)
  have m7 : ∀ j, j < 33 → ad (333 + j) = nad e7 j := by rw [had]; exact ad_h 333 7 rfl (by decide)
  have q0 : ad 0 = q := by rw [had]; rfl
  have q1 : ad 1 = d1.1 := n1 0 (by decide)
  have q34 : ad 34 = d2.1 := n2 0 (by decide)
  have q67 : ad 67 = d3.1 := n3 0 (by decide)
  have q100 : ad 100 = o4 := by rw [had]; rfl
  have q101 : ad 101 = hr := by rw [had]; rfl
  have q102 : ad 102 = e0.1 := m0 0 (by decide)
  have q135 : ad 135 = e1.1 := m1 0 (by decide)
  have q168 : ad 168 = e2.1 := m2 0 (by decide)
  have q201 : ad 201 = e3.1 := m3 0 (by decide)
  have q234 : ad 234 = e4.1 := m4 0 (by decide)
  have q267 : ad 267 = e5.1 := m5 0 (by decide)
  have q300 : ad 300 = e6.1 := m6 0 (by decide)
  have q333 : ad 333 = e7.1 := m7 0 (by decide)
  have q366 : ad 366 = o5 := by rw [had]; exact ad_t 366 0 rfl
  have q367 : ad 367 = a1 := by rw [had]; exact ad_t 367 1 rfl
  have q368 : ad 368 = a2 := by rw [had]; exact ad_t 368 2 rfl
  have q369 : ad 369 = a3 := by rw [had]; exact ad_t 369 3 rfl
  have q370 : ad 370 = a4 := by rw [had]; exact ad_t 370 4 rfl
  have q371 : ad 371 = o6 := by rw [had]; exact ad_t 371 5 rfl
  have q372 : ad 372 = b1 := by rw [had]; exact ad_t 372 6 rfl
  have q373 : ad 373 = b2 := by rw [had]; exact ad_t 373 7 rfl
  have q374 : ad 374 = b3 := by rw [had]; exact ad_t 374 8 rfl
  have q375 : ad 375 = b4 := by rw [had]; exact ad_t 375 9 rfl
  have q376 : ad 376 = o7 := by rw [had]; exact ad_t 376 10 rfl
  have q377 : ad 377 = c1 := by rw [had]; exact ad_t 377 11 rfl
  have q378 : ad 378 = c2 := by rw [had]; exact ad_t 378 12 rfl
  have q379 : ad 379 = o8 := by rw [had]; exact ad_t 379 13 rfl
  have q380 : ad 380 = f1 := by rw [had]; exact ad_t 380 14 rfl
  have q381 : ad 381 = f2 := by rw [had]; exact ad_t 381 15 rfl
  have q382 : ad 382 = f3 := by rw [had]; exact ad_t 382 16 rfl
  have q383 : ad 383 = f4 := by rw [had]; exact ad_t 383 17 rfl
  have q384 : ad 384 = f5 := by rw [had]; exact ad_t 384 18 rfl
  have q385 : ad 385 = f6 := by rw [had]; exact ad_t 385 19 rfl
  have q386 : ad 386 = o9 := by rw [had]; exact ad_t 386 20 rfl
  have q387 : ad 387 = g1 := by rw [had]; exact ad_t 387 21 rfl
  have q388 : ad 388 = g2 := by rw [had]; exact ad_t 388 22 rfl
  have q389 : ad 389 = g3 := by rw [had]; exact ad_t 389 23 rfl
  have q390 : ad 390 = o10 := by rw [had]; exact ad_t 390 24 rfl
  obtain ⟨k0, k1, k34, k67, k100, k101, k102, k135, k168, k201, k234, k267, k300, k333, k366, k367, k368, k369, k370, k371, k372, k373, k374, k375, k376, k377, k378, k379, k380, k381, k382, k383, k384, k385, k386, k387, k388, k389, k390⟩ := kd_tl
  clear had
  have _k : kd 0 = 12 := k0
  have x0 : XQ G (q, (.inr (13, [.ref d1.1, .ref d2.1, .ref d3.1, vi 0, .ref o4, .ref o5, .ref o6, .ref o7, .ref o8, .ref o9, vi (-1), vi (-1), .ref o10]) : va_E)) (fF cy ad E ab 0) := XQ.of (by
    unfold fF
    rw [k0, q0, ← q1, ← q34, ← q67, ← q100, ← q366, ← q371, ← q376, ← q379, ← q386, ← q390]
    rfl)
  have t0 : XQ G (o5, (.inr (4, [.ref a1, .ref a2, .ref a3, .ref a4]) : va_E)) (fF cy ad E ab 366) := XQ.of (by rw [fF_k k366 q366 (by decide), ← q367, ← q368, ← q369, ← q370]; rfl)
  have t1 : XQ G (a1, (.inl (cy 0, 10, .inl (fun _ => 0)) : va_E)) (fF cy ad E ab 367) := XQ.of (by rw [fF_k k367 q367 (by decide)]; rfl)
  have t2 : XQ G (a2, (.inl (cy 0, 10, .inl (fun _ => 0)) : va_E)) (fF cy ad E ab 368) := XQ.of (by rw [fF_k k368 q368 (by decide)]; rfl)
  have t3 : XQ G (a3, (.inl (cy 1, 10, .inl (fun _ => 0)) : va_E)) (fF cy ad E ab 369) := XQ.of (by rw [fF_k k369 q369 (by decide)]; rfl)
  have t4 : XQ G (a4, (.inl (cy 1, 10, .inl (fun _ => 0)) : va_E)) (fF cy ad E ab 370) := XQ.of (by rw [fF_k k370 q370 (by decide)]; rfl)
  have t5 : XQ G (o6, (.inr (4, [.ref b1, .ref b2, .ref b3, .ref b4]) : va_E)) (fF cy ad E ab 371) := XQ.of (by rw [fF_k k371 q371 (by decide), ← q372, ← q373, ← q374, ← q375]; rfl)
  have t6 : XQ G (b1, (.inl (cy 0, 10, .inl (fun _ => 0)) : va_E)) (fF cy ad E ab 372) := XQ.of (by rw [fF_k k372 q372 (by decide)]; rfl)
  have t7 : XQ G (b2, (.inl (cy 0, 10, .inl (fun _ => 0)) : va_E)) (fF cy ad E ab 373) := XQ.of (by rw [fF_k k373 q373 (by decide)]; rfl)
  have t8 : XQ G (b3, (.inl (cy 1, 10, .inl (fun _ => 0)) : va_E)) (fF cy ad E ab 374) := XQ.of (by rw [fF_k k374 q374 (by decide)]; rfl)
  have t9 : XQ G (b4, (.inl (cy 1, 10, .inl (fun _ => 0)) : va_E)) (fF cy ad E ab 375) := XQ.of (by rw [fF_k k375 q375 (by decide)]; rfl)
  have t10 : XQ G (o7, (.inr (5, [.ref c1, .ref c2]) : va_E)) (fF cy ad E ab 376) := XQ.of (by rw [fF_k k376 q376 (by decide), ← q377, ← q378]; rfl)
  have t11 : XQ G (c1, (.inl (cy 0, 10, .inl (fun _ => 0)) : va_E)) (fF cy ad E ab 377) := XQ.of (by rw [fF_k k377 q377 (by decide)]; rfl)
  have t12 : XQ G (c2, (.inl (cy 0, 100, .inl (fun _ => 0)) : va_E)) (fF cy ad E ab 378) := XQ.of (by rw [fF_k k378 q378 (by decide)]; rfl)
  have t13 : XQ G (o8, (.inr (6, [.ref f1, .ref f2, .ref f3, vi 0, .ref f4, .ref f5, .ref f6]) : va_E)) (fF cy ad E ab 379) := XQ.of (by rw [fF_k k379 q379 (by decide), ← q380, ← q381, ← q382, ← q383, ← q384, ← q385]; rfl)
  have t14 : XQ G (f1, (.inl (cy 0, 100, .inl (fun _ => 0)) : va_E)) (fF cy ad E ab 380) := XQ.of (by rw [fF_k k380 q380 (by decide)]; rfl)
  have t15 : XQ G (f2, (.inl (cy 0, 10, .inl (fun _ => 0)) : va_E)) (fF cy ad E ab 381) := XQ.of (by rw [fF_k k381 q381 (by decide)]; rfl)
  have t16 : XQ G (f3, (.inl (cy 0, 10, .inl (fun _ => 0)) : va_E)) (fF cy ad E ab 382) := XQ.of (by rw [fF_k k382 q382 (by decide)]; rfl)
  have t17 : XQ G (f4, (.inl (cy 0, 30, .inl (fun _ => 0)) : va_E)) (fF cy ad E ab 383) := XQ.of (by rw [fF_k k383 q383 (by decide)]; rfl)
  have t18 : XQ G (f5, (.inl (cy 0, 30, .inl (fun _ => 0)) : va_E)) (fF cy ad E ab 384) := XQ.of (by rw [fF_k k384 q384 (by decide)]; rfl)
  have t19 : XQ G (f6, (.inl (cy 0, 30, .inl (fun _ => 0)) : va_E)) (fF cy ad E ab 385) := XQ.of (by rw [fF_k k385 q385 (by decide)]; rfl)
  have t20 : XQ G (o9, (.inr (10, [.ref g1, vi 0, vi 0, vi 0, .ref g2, .ref g3]) : va_E)) (fF cy ad E ab 386) := XQ.of (by rw [fF_k k386 q386 (by decide), ← q387, ← q388, ← q389]; rfl)
  have t21 : XQ G (g1, (.inl (cy 2, 60, .inl (fun _ => 0)) : va_E)) (fF cy ad E ab 387) := XQ.of (by rw [fF_k k387 q387 (by decide)]; rfl)
  have t22 : XQ G (g2, (.inl (cy 6, 16, qA (fun j => if j < 16 then some (E 1 6) else none)) : va_E)) (fF cy ad E ab 388) := fF_30 k388 q388 (fun j hj => if_pos hj)
  have t23 : XQ G (g3, (.inl (cy 0, 64, .inl (fun _ => 0)) : va_E)) (fF cy ad E ab 389) := XQ.of (by rw [fF_k k389 q389 (by decide)]; rfl)
  have t24 : XQ G (o10, (.inr (1, [.ref ab, vi 0, vi 0, vi 0]) : va_E)) (fF cy ad E ab 390) := XQ.of (by unfold fF; rw [k390, q390]; rfl)
  have x100 : XQ G (o4, (.inr (7, [.ref hr, vi 0, vi 0]) : va_E)) (fF cy ad E ab 100) := XQ.of (by rw [fF_k k100 q100 (by decide), ← q101]; rfl)
  have x101 : XQ G (hr, (.inl (cy 5, 8, qA (fun j => (([e0, e1, e2, e3, e4, e5, e6, e7] : List ND)[j]?).map Prod.fst)) : va_E)) (fF cy ad E ab 101) := fF_29 k101 q101 (fun j hj => match j, hj with | 0, _ => (congrArg some q102).symm | 1, _ => (congrArg some q135).symm | 2, _ => (congrArg some q168).symm | 3, _ => (congrArg some q201).symm | 4, _ => (congrArg some q234).symm | 5, _ => (congrArg some q267).symm | 6, _ => (congrArg some q300).symm | 7, _ => (congrArg some q333).symm | n + 8, h => absurd h (by omega))
  rw [wlc_sg]
  simp only [List.nil_append, List.append_assoc]
  refine WQ.cons x0 (WQ.app (wq8 g1' n1 kdN_1) (WQ.app (wq8 g2' n2 kdN_2) (WQ.app (wq8 g3' n3 kdN_3) (WQ.app ?_ ?_))))
  · refine WQ.cons x100 (WQ.cons x101 ?_)
    show WQ G ((w8 cy e0 ++ (w8 cy e1 ++ (w8 cy e2 ++ (w8 cy e3 ++ (w8 cy e4 ++ (w8 cy e5 ++ (w8 cy e6 ++ (w8 cy e7 ++ []))))))))) _
    exact (WQ.app (wq8 hg0 m0 kdN_h0) (WQ.app (wq8 hg1 m1 kdN_h1) (WQ.app (wq8 hg2 m2 kdN_h2) (WQ.app (wq8 hg3 m3 kdN_h3) (WQ.app (wq8 hg4 m4 kdN_h4) (WQ.app (wq8 hg5 m5 kdN_h5) (WQ.app (wq8 hg6 m6 kdN_h6) (WQ.app (wq8 hg7 m7 kdN_h7) WQ.nil))))))))
  · exact (WQ.cons t0 (WQ.cons t1 (WQ.cons t2 (WQ.cons t3 (WQ.cons t4 (WQ.cons t5 (WQ.cons t6 (WQ.cons t7 (WQ.cons t8 (WQ.cons t9 (WQ.cons t10 (WQ.cons t11 (WQ.cons t12 (WQ.cons t13 (WQ.cons t14 (WQ.cons t15 (WQ.cons t16 (WQ.cons t17 (WQ.cons t18 (WQ.cons t19 (WQ.cons t20 (WQ.cons t21 (WQ.cons t22 (WQ.cons t23 (WQ.cons t24 WQ.rf)))))))))))))))))))))))))
def m0 : Sm := fun r _ => if r = 13 ∨ r = 14 then -1 else 0
theorem mdl_wq {p o d : Nat} {R : List Nat} (hR : R.length = 10) : ∃ adm : Nat → Nat, adm 0 = p ∧ adm 11 = o ∧ adm 12 = d ∧ ∀ j, j < 10 → adm (j + 1) = R.getD j 0 := ⟨fun r => if r = 0 then p else if r = 11 then o else if r = 12 then d else R.getD (r - 1) 0, rfl, rfl, rfl, fun j hj => by
  show (if j + 1 = 0 then p else if j + 1 = 11 then o else if j + 1 = 12 then d else R.getD (j + 1 - 1) 0) = _
  rw [if_neg (by omega), if_neg (by omega), if_neg (by omega), Nat.add_sub_cancel]⟩
theorem law_wq {w : va_W} {ad : Nat → Nat} {ab : Nat} (h : WQ G w (wlc cy ad E (s0 ab))) (p o d r1 r2 r3 r4 r5 r6 r7 r8 r9 r10 : Nat) : ∃ adm : Nat → Nat, adm 0 = p ∧ adm 11 = o ∧ adm 12 = d ∧ WQ G ((((([] ++ w) ++ [(p, .inr (14, [.ref r1, .ref r2, .ref r3, .ref r4, .ref r5, .ref r6, vi 0, vi 0, vi (-1), vi (-1), vi 0, .ref r7, vi 0, .ref r8, .ref r9, .ref r10, vi 0, vi 0, vi 0, vi 0, vi 0])), (r1, .inl (cy 0, 340, .inl (fun _ => 0))), (r2, .inl (cy 0, 340, .inl (fun _ => 0))), (r3, .inl (cy 0, 340, .inl (fun _ => 0))), (r4, .inl (cy 0, 2720, .inl (fun _ => 0))), (r5, .inl (cy 0, 10, .inl (fun _ => 0))), (r6, .inl (cy 0, 10, .inl (fun _ => 0))), (r7, .inl (cy 0, 80, .inl (fun _ => 0))), (r8, .inl (cy 0, 60, .inl (fun _ => 0))), (r9, .inl (cy 0, 32, .inl (fun _ => 0))), (r10, .inl (cy 0, 128, .inl (fun _ => 0)))]) ++ [(o, .inl (cy 8, 1, .inr (.inl (fun _ => 0))))]) ++ [(d, .inl (cy 9, 1, .inr (.inr (.inr (.inl (fun _ => 0))))))])) (wlL cy ad adm E (s0 ab, m0, 0, 0)) := by
  obtain ⟨adm, e0, e11, e12, hj⟩ := mdl_wq (p := p) (o := o) (d := d) (R := [r1, r2, r3, r4, r5, r6, r7, r8, r9, r10]) rfl
  refine ⟨adm, e0, e11, e12, ?_⟩
  have s1 : adm 1 = r1 := hj 0 (by decide)
  have s2 : adm 2 = r2 := hj 1 (by decide)
  have s3 : adm 3 = r3 := hj 2 (by decide)
  have s4 : adm 4 = r4 := hj 3 (by decide)
  have s5 : adm 5 = r5 := hj 4 (by decide)
  have s6 : adm 6 = r6 := hj 5 (by decide)
  have s7 : adm 7 = r7 := hj 6 (by decide)
  have s8 : adm 8 = r8 := hj 7 (by decide)
  have s9 : adm 9 = r9 := hj 8 (by decide)
  have s10 : adm 10 = r10 := hj 9 (by decide)
  have hL : opL 0 = fun _ => 0 := by
    funext j
    unfold opL
    split <;> rfl
  have hD : opD 0 = fun _ => 0 := by
    funext j
    unfold opD
    split <;> rfl
  have e : wlL cy ad adm E (s0 ab, m0, 0, 0) = wlc cy ad E (s0 ab) ++ ([(p, .inr (14, [.ref r1, .ref r2, .ref r3, .ref r4, .ref r5, .ref r6, vi 0, vi 0, vi (-1), vi (-1), vi 0, .ref r7, vi 0, .ref r8, .ref r9, .ref r10, vi 0, vi 0, vi 0, vi 0, vi 0])), (r1, .inl (cy 0, 340, .inl (fun _ => 0))), (r2, .inl (cy 0, 340, .inl (fun _ => 0))), (r3, .inl (cy 0, 340, .inl (fun _ => 0))), (r4, .inl (cy 0, 2720, .inl (fun _ => 0))), (r5, .inl (cy 0, 10, .inl (fun _ => 0))), (r6, .inl (cy 0, 10, .inl (fun _ => 0))), (r7, .inl (cy 0, 80, .inl (fun _ => 0))), (r8, .inl (cy 0, 60, .inl (fun _ => 0))), (r9, .inl (cy 0, 32, .inl (fun _ => 0))), (r10, .inl (cy 0, 128, .inl (fun _ => 0)))] ++ ([(o, .inl (cy 8, 1, .inr (.inl (fun _ => 0))))] ++ [(d, .inl (cy 9, 1, .inr (.inr (.inr (.inl (fun _ => 0))))))])) := by
    show wlc cy ad E (s0 ab) ++ (wlm (cy 0) adm m0 ++ [(adm 11, .inl (cy 8, 1, .inr (.inl (opL 0)))), (adm 12, .inl (cy 9, 1, .inr (.inr (.inr (.inl (opD 0))))))]) = _
    rw [hL, hD, e11, e12, ← e0, ← s1, ← s2, ← s3, ← s4, ← s5, ← s6, ← s7, ← s8, ← s9, ← s10]
    rfl
  rw [e]
  simp only [List.nil_append, List.append_assoc]
  exact WQ.app h WQ.rf
end CLS
