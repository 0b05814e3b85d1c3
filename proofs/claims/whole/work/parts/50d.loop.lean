/-! the law's loop, cases 24 and on -/
noncomputable def f_law_24 (sq : Nat) (xs : Nat → Int32) (N : Nat) (rec : SL → Int → Option Unit) (σ : SL) (i : Int) : Option Unit :=
  if 0 ≤ (i + 1) ∧ (i + 1) < (sq : Int) then (f_L_runs N σ (scv xs (i + 1))).bind fun v2 => (f_X13_runs v2.1.2.1 (scv xs (i + 1))).bind fun v3 => (f_X13_thrown (v2.1.1, v3.1, v2.1.2.2).2.1).bind fun v4 => (if v4 = v2.2 then (if v2.2 = 0 then (if v3.2 = 0 then (if (lcm ((v2.1.1, v3.1, v2.1.2.2).2.2.1) 0) = 0 then rec (v2.1.1, v3.1, v2.1.2.2) (i + 5) else none) else (if (lcm ((v2.1.1, v3.1, v2.1.2.2).2.2.1) 1) = 0 then rec (v2.1.1, v3.1, v2.1.2.2) (i + 5) else none)) else rec (v2.1.1, v3.1, v2.1.2.2) (i + 5)) else none) else none
theorem lc_24 {X : vjX} {A : Nat → Prop} {Q : State → Prop} {cy : Nat → ClassId} {adc adm : Nat → Nat} {E : Nat → Nat → Nat} {G : va_G} {Z : vZ} {sa : Nat → Nat} {sc sq : Nat} {xs : Nat → Int32} (zk : Zk Z E) (zy : Zy Z E sa) (zs : ZS Z E) (zE : ZE Z) (zp : ZP Z) (zd : ZD Z E) (hst : X.2.1.stackTraces = false) (hZ : Zx Z X (YL cy adc adm E G A 9 Q)) (sx : SX X A sc sq xs) (hL : sq ≤ 2560) (C : Cx X (YL cy adc adm E G A 9 Q) cL_law RL (some .boolean) room_1 (tyL cy)) (N : Nat) (n : Nat) (rec : SL → Int → Option Unit) (ih : ∀ (σ : SL) (i : Int) (a bb : Nat), rng i → a + n * 1000 ≤ 600000 → bb + n * 13000 ≤ 7200000 → T X (YL cy adc adm E G A 9 Q) (fun (_ : Unit) => ∀ (q : SL) (a bb : Nat), a ≤ 600000 → bb ≤ 7200000 → J X (YL cy adc adm E G A 9 Q) a bb 3734 [] [] q) a bb 28 [(0, .ref sc), (1, .ref (adc 0)), (2, .ref (adm 0)), (3, .ref (adm 11)), (4, .ref (adm 12)), (5, vi i)] [] σ (rec σ i)) (σ : SL) (i : Int) (a bb : Nat) (hi : rng i) (hi0 : 0 ≤ i ∧ i < (sq : Int)) (ha : a + (n + 1) * 1000 ≤ 600000) (hb : bb + (n + 1) * 13000 ≤ 7200000) : T X (YL cy adc adm E G A 9 Q) (fun (_ : Unit) => ∀ (q : SL) (a bb : Nat), a ≤ 600000 → bb ≤ 7200000 → J X (YL cy adc adm E G A 9 Q) a bb 3734 [] [] q) a bb 1706 [(0, .ref sc), (1, .ref (adc 0)), (2, .ref (adm 0)), (3, .ref (adm 11)), (4, .ref (adm 12)), (5, vi i)] [] σ (f_law_24 sq xs N rec σ i) := by
  have hsl : sq ≤ 2147483647 := by omega
  have hsq : rng (sq : Int) := by unfold rng; omega
  unfold f_law_24
  refine T_aload_n (pc := 1706) C dL_law_1706 rfl 1 rfl ?_
  refine T_aload_n (pc := 1707) C dL_law_1707 rfl 0 rfl ?_
  refine T_iload (pc := 1708) C dL_law_1708 5 rfl ?_
  refine T_iconst (pc := 1710) C dL_law_1710 ?_
  refine T_iadd (pc := 1711) C dL_law_1711 ?_
  refine T_guard (fun g1 => ?_)
  refine T_sld sx (pc := 1712) C hsl g1 dL_law_1712 ?_
  refine T_aload_n (pc := 1713) C dL_law_1713 rfl 3 rfl ?_
  refine T_lh (pc := 1714) zk.1 hZ C [.ref (adc 0), vi (scv xs (i + 1)), .ref (adm 11)] [] (fun o h9 hw => ct_L_runs zk zy zs zE hst N σ (scv xs (i + 1)) (scv_rng _ _) hw o h9) kq_49 cm_L_runs rfl rfl (Nat.le_of_ble_eq_true rfl) ⟨⟨by decide, by decide⟩, by show _ + 1 ≤ room_1.cells; have := rmC1; omega, by show _ + 6 ≤ room_1.slots; have := rmS1; omega⟩ (a' := a + 1) (b' := bb + 6) ⟨rfl, rfl⟩ dL_law_1714 (fun v2 hv2 => ?_)
  refine T_istore (pc := 1717) (L' := [(6, vi v2.2), (0, .ref sc), (1, .ref (adc 0)), (2, .ref (adm 0)), (3, .ref (adm 11)), (4, .ref (adm 12)), (5, vi i)]) C dL_law_1717 (Nat.le_of_ble_eq_true rfl) rfl ?_
  refine T_aload_n (pc := 1719) C dL_law_1719 rfl 3 rfl ?_
  refine T_aload_n (pc := 1720) C dL_law_1720 rfl 1 rfl ?_
  refine T_iload (pc := 1721) C dL_law_1721 6 rfl ?_
  refine T_iconst (pc := 1723) C dL_law_1723 ?_
  refine T_iadd (pc := 1724) C dL_law_1724 ?_
  refine T_sld sx (pc := 1725) C hsl g1 dL_law_1725 ?_
  refine T_lmi (pc := 1726) C [vi (scv xs (i + 1))] [] (fun o h9 hw => ct_X13_runs v2.1.2.1 (scv xs (i + 1)) (scv_rng _ _) hw o h9) kq_50 cm_X13_runs rcm rfl rfl (Nat.le_of_ble_eq_true rfl) ⟨⟨by decide, by decide⟩, by show _ + 0 ≤ room_1.cells; have := rmC1; omega, by show _ + 0 ≤ room_1.slots; have := rmS1; omega⟩ (a' := a + 1) (b' := bb + 6) ⟨rfl, rfl⟩ dL_law_1726 (fun v3 hv3 => ?_)
  refine T_istore (pc := 1729) (L' := [(7, vi v3.2), (6, vi v2.2), (0, .ref sc), (1, .ref (adc 0)), (2, .ref (adm 0)), (3, .ref (adm 11)), (4, .ref (adm 12)), (5, vi i)]) C dL_law_1729 (Nat.le_of_ble_eq_true rfl) rfl ?_
  refine T_aload_n (pc := 1731) C dL_law_1731 rfl 4 rfl ?_
  refine T_lmp (pc := 1732) C [] [] (fun o h9 hw => ct_X13_thrown (v2.1.1, v3.1, v2.1.2.2).2.1 hw o h9) kq_2 cm_X13_thrown rcm rfl rfl (Nat.le_of_ble_eq_true rfl) ⟨⟨by decide, by decide⟩, by show _ + 0 ≤ room_1.cells; have := rmC1; omega, by show _ + 0 ≤ room_1.slots; have := rmS1; omega⟩ (a' := a + 1) (b' := bb + 6) ⟨rfl, rfl⟩ dL_law_1732 (fun v4 hv4 => ?_)
  refine T_iload (pc := 1735) C dL_law_1735 1 rfl ?_
  refine T_icmp_eq (pc := 1737) C 1742 dL_law_1737 rfl hv4.1 hv2 (fun c5 => ?_) (fun c5 => ?_)
  · refine T_iload (pc := 1742) C dL_law_1742 1 rfl ?_
    refine T_if_ne (pc := 1744) C 1766 dL_law_1744 rfl hv2 (fun c6 => ?_) (fun c6 => ?_)
    · refine T_goto (pc := 1766) C 3728 dL_law_1766 rfl ?_
      refine T_iinc (pc := 3728) (L' := [(5, vi (i + 5)), (7, vi v3.2), (6, vi v2.2), (0, .ref sc), (1, .ref (adc 0)), (2, .ref (adm 0)), (3, .ref (adm 11)), (4, .ref (adm 12))]) C dL_law_3728 (Nat.le_of_ble_eq_true rfl) 7 rfl rfl ?_
      refine T_goto (pc := 3731) C 28 dL_law_3731 rfl ?_
      refine T_sub (L' := [(0, .ref sc), (1, .ref (adc 0)), (2, .ref (adm 0)), (3, .ref (adm 11)), (4, .ref (adm 12)), (5, vi (i + 5))]) [3, 4, 5, 6, 7, 0] rfl ?_
      exact ih (v2.1.1, v3.1, v2.1.2.2) (i + 5) _ _ (by unfold rng; omega) (stp (c := 1) ha (by decide)) (stp (c := 6) hb (by decide))
    · refine T_aload_n (pc := 1747) C dL_law_1747 rfl 5 rfl ?_
      refine T_iconst (pc := 1748) C dL_law_1748 ?_
      refine T_lald (pc := 1749) C dL_law_1749 (fun o7 => ?_)
      refine T_iload (pc := 1750) C dL_law_1750 0 rfl ?_
      refine T_if_eq (pc := 1752) C 1759 dL_law_1752 rfl hv3.1 (fun c8 => ?_) (fun c8 => ?_)
      · refine T_lconst (pc := 1759) C 0 rfl dL_law_1759 ?_
        refine T_lcmp (pc := 1760) C o7 (rngL rfl) dL_law_1760 ?_
        refine T_if_eq (pc := 1761) C 1766 dL_law_1761 rfl (lcm_rng _ _) (fun c9 => ?_) (fun c9 => ?_)
        · refine T_goto (pc := 1766) C 3728 dL_law_1766 rfl ?_
          refine T_iinc (pc := 3728) (L' := [(5, vi (i + 5)), (7, vi v3.2), (6, vi v2.2), (0, .ref sc), (1, .ref (adc 0)), (2, .ref (adm 0)), (3, .ref (adm 11)), (4, .ref (adm 12))]) C dL_law_3728 (Nat.le_of_ble_eq_true rfl) 7 rfl rfl ?_
          refine T_goto (pc := 3731) C 28 dL_law_3731 rfl ?_
          refine T_sub (L' := [(0, .ref sc), (1, .ref (adc 0)), (2, .ref (adm 0)), (3, .ref (adm 11)), (4, .ref (adm 12)), (5, vi (i + 5))]) [3, 4, 5, 6, 7, 0] rfl ?_
          exact ih (v2.1.1, v3.1, v2.1.2.2) (i + 5) _ _ (by unfold rng; omega) (stp (c := 1) ha (by decide)) (stp (c := 6) hb (by decide))
        · refine T_iconst (pc := 1764) C dL_law_1764 ?_
          exact T_none
      · refine T_lconst (pc := 1755) C 1 rfl dL_law_1755 ?_
        refine T_goto (pc := 1756) C 1760 dL_law_1756 rfl ?_
        refine T_lcmp (pc := 1760) C o7 (rngL rfl) dL_law_1760 ?_
        refine T_if_eq (pc := 1761) C 1766 dL_law_1761 rfl (lcm_rng _ _) (fun c10 => ?_) (fun c10 => ?_)
        · refine T_goto (pc := 1766) C 3728 dL_law_1766 rfl ?_
          refine T_iinc (pc := 3728) (L' := [(5, vi (i + 5)), (7, vi v3.2), (6, vi v2.2), (0, .ref sc), (1, .ref (adc 0)), (2, .ref (adm 0)), (3, .ref (adm 11)), (4, .ref (adm 12))]) C dL_law_3728 (Nat.le_of_ble_eq_true rfl) 7 rfl rfl ?_
          refine T_goto (pc := 3731) C 28 dL_law_3731 rfl ?_
          refine T_sub (L' := [(0, .ref sc), (1, .ref (adc 0)), (2, .ref (adm 0)), (3, .ref (adm 11)), (4, .ref (adm 12)), (5, vi (i + 5))]) [3, 4, 5, 6, 7, 0] rfl ?_
          exact ih (v2.1.1, v3.1, v2.1.2.2) (i + 5) _ _ (by unfold rng; omega) (stp (c := 1) ha (by decide)) (stp (c := 6) hb (by decide))
        · refine T_iconst (pc := 1764) C dL_law_1764 ?_
          exact T_none
  · refine T_iconst (pc := 1740) C dL_law_1740 ?_
    exact T_none
noncomputable def f_law_25 (sq : Nat) (xs : Nat → Int32) (N : Nat) (rec : SL → Int → Option Unit) (σ : SL) (i : Int) : Option Unit :=
  if 0 ≤ (i + 1) ∧ (i + 1) < (sq : Int) then if 0 ≤ (i + 2) ∧ (i + 2) < (sq : Int) then if 0 ≤ (i + 3) ∧ (i + 3) < (sq : Int) then (f_L_tripMinute N σ (scv xs (i + 1)) (scv xs (i + 2)) (scv xs (i + 3))).bind fun v4 => (f_X13_tripMinute v4.1.2.1 (scv xs (i + 1)) (scv xs (i + 2)) (scv xs (i + 3))).bind fun v5 => (f_X13_thrown (v4.1.1, v5.1, v4.1.2.2).2.1).bind fun v6 => (if v6 = v4.2 then (if v4.2 = 0 then (if (lcm ((v4.1.1, v5.1, v4.1.2.2).2.2.1) v5.2) = 0 then rec (v4.1.1, v5.1, v4.1.2.2) (i + 5) else none) else rec (v4.1.1, v5.1, v4.1.2.2) (i + 5)) else none) else none else none else none
theorem lc_25 {X : vjX} {A : Nat → Prop} {Q : State → Prop} {cy : Nat → ClassId} {adc adm : Nat → Nat} {E : Nat → Nat → Nat} {G : va_G} {Z : vZ} {sa : Nat → Nat} {sc sq : Nat} {xs : Nat → Int32} (zk : Zk Z E) (zy : Zy Z E sa) (zs : ZS Z E) (zE : ZE Z) (zp : ZP Z) (zd : ZD Z E) (hst : X.2.1.stackTraces = false) (hZ : Zx Z X (YL cy adc adm E G A 9 Q)) (sx : SX X A sc sq xs) (hL : sq ≤ 2560) (C : Cx X (YL cy adc adm E G A 9 Q) cL_law RL (some .boolean) room_1 (tyL cy)) (N : Nat) (n : Nat) (rec : SL → Int → Option Unit) (ih : ∀ (σ : SL) (i : Int) (a bb : Nat), rng i → a + n * 1000 ≤ 600000 → bb + n * 13000 ≤ 7200000 → T X (YL cy adc adm E G A 9 Q) (fun (_ : Unit) => ∀ (q : SL) (a bb : Nat), a ≤ 600000 → bb ≤ 7200000 → J X (YL cy adc adm E G A 9 Q) a bb 3734 [] [] q) a bb 28 [(0, .ref sc), (1, .ref (adc 0)), (2, .ref (adm 0)), (3, .ref (adm 11)), (4, .ref (adm 12)), (5, vi i)] [] σ (rec σ i)) (σ : SL) (i : Int) (a bb : Nat) (hi : rng i) (hi0 : 0 ≤ i ∧ i < (sq : Int)) (ha : a + (n + 1) * 1000 ≤ 600000) (hb : bb + (n + 1) * 13000 ≤ 7200000) : T X (YL cy adc adm E G A 9 Q) (fun (_ : Unit) => ∀ (q : SL) (a bb : Nat), a ≤ 600000 → bb ≤ 7200000 → J X (YL cy adc adm E G A 9 Q) a bb 3734 [] [] q) a bb 1769 [(0, .ref sc), (1, .ref (adc 0)), (2, .ref (adm 0)), (3, .ref (adm 11)), (4, .ref (adm 12)), (5, vi i)] [] σ (f_law_25 sq xs N rec σ i) := by
  have hsl : sq ≤ 2147483647 := by omega
  have hsq : rng (sq : Int) := by unfold rng; omega
  unfold f_law_25
  refine T_aload_n (pc := 1769) C dL_law_1769 rfl 1 rfl ?_
  refine T_aload_n (pc := 1770) C dL_law_1770 rfl 0 rfl ?_
  refine T_iload (pc := 1771) C dL_law_1771 5 rfl ?_
  refine T_iconst (pc := 1773) C dL_law_1773 ?_
  refine T_iadd (pc := 1774) C dL_law_1774 ?_
  refine T_guard (fun g1 => ?_)
  refine T_sld sx (pc := 1775) C hsl g1 dL_law_1775 ?_
  refine T_aload_n (pc := 1776) C dL_law_1776 rfl 0 rfl ?_
  refine T_iload (pc := 1777) C dL_law_1777 5 rfl ?_
  refine T_iconst (pc := 1779) C dL_law_1779 ?_
  refine T_iadd (pc := 1780) C dL_law_1780 ?_
  refine T_guard (fun g2 => ?_)
  refine T_sld sx (pc := 1781) C hsl g2 dL_law_1781 ?_
  refine T_aload_n (pc := 1782) C dL_law_1782 rfl 0 rfl ?_
  refine T_iload (pc := 1783) C dL_law_1783 5 rfl ?_
  refine T_iconst (pc := 1785) C dL_law_1785 ?_
  refine T_iadd (pc := 1786) C dL_law_1786 ?_
  refine T_guard (fun g3 => ?_)
  refine T_sld sx (pc := 1787) C hsl g3 dL_law_1787 ?_
  refine T_aload_n (pc := 1788) C dL_law_1788 rfl 3 rfl ?_
  refine T_lh (pc := 1789) zk.1 hZ C [.ref (adc 0), vi (scv xs (i + 1)), vi (scv xs (i + 2)), vi (scv xs (i + 3)), .ref (adm 11)] [] (fun o h9 hw => ct_L_tripMinute zk zy zs zE hst N σ (scv xs (i + 1)) (scv xs (i + 2)) (scv xs (i + 3)) (scv_rng _ _) (scv_rng _ _) (scv_rng _ _) hw o h9) kq_51 cm_L_tripMinute rfl rfl (Nat.le_of_ble_eq_true rfl) ⟨⟨by decide, by decide⟩, by show _ + 1 ≤ room_1.cells; have := rmC1; omega, by show _ + 6 ≤ room_1.slots; have := rmS1; omega⟩ (a' := a + 1) (b' := bb + 6) ⟨rfl, rfl⟩ dL_law_1789 (fun v4 hv4 => ?_)
  refine T_istore (pc := 1792) (L' := [(6, vi v4.2), (0, .ref sc), (1, .ref (adc 0)), (2, .ref (adm 0)), (3, .ref (adm 11)), (4, .ref (adm 12)), (5, vi i)]) C dL_law_1792 (Nat.le_of_ble_eq_true rfl) rfl ?_
  refine T_aload_n (pc := 1794) C dL_law_1794 rfl 3 rfl ?_
  refine T_aload_n (pc := 1795) C dL_law_1795 rfl 1 rfl ?_
  refine T_iload (pc := 1796) C dL_law_1796 6 rfl ?_
  refine T_iconst (pc := 1798) C dL_law_1798 ?_
  refine T_iadd (pc := 1799) C dL_law_1799 ?_
  refine T_sld sx (pc := 1800) C hsl g1 dL_law_1800 ?_
  refine T_aload_n (pc := 1801) C dL_law_1801 rfl 1 rfl ?_
  refine T_iload (pc := 1802) C dL_law_1802 6 rfl ?_
  refine T_iconst (pc := 1804) C dL_law_1804 ?_
  refine T_iadd (pc := 1805) C dL_law_1805 ?_
  refine T_sld sx (pc := 1806) C hsl g2 dL_law_1806 ?_
  refine T_aload_n (pc := 1807) C dL_law_1807 rfl 1 rfl ?_
  refine T_iload (pc := 1808) C dL_law_1808 6 rfl ?_
  refine T_iconst (pc := 1810) C dL_law_1810 ?_
  refine T_iadd (pc := 1811) C dL_law_1811 ?_
  refine T_sld sx (pc := 1812) C hsl g3 dL_law_1812 ?_
  refine T_lmi (pc := 1813) C [vi (scv xs (i + 1)), vi (scv xs (i + 2)), vi (scv xs (i + 3))] [] (fun o h9 hw => ct_X13_tripMinute v4.1.2.1 (scv xs (i + 1)) (scv xs (i + 2)) (scv xs (i + 3)) (scv_rng _ _) (scv_rng _ _) (scv_rng _ _) hw o h9) kq_52 cm_X13_tripMinute rcm rfl rfl (Nat.le_of_ble_eq_true rfl) ⟨⟨by decide, by decide⟩, by show _ + 0 ≤ room_1.cells; have := rmC1; omega, by show _ + 0 ≤ room_1.slots; have := rmS1; omega⟩ (a' := a + 1) (b' := bb + 6) ⟨rfl, rfl⟩ dL_law_1813 (fun v5 hv5 => ?_)
  refine T_istore (pc := 1816) (L' := [(7, vi v5.2), (6, vi v4.2), (0, .ref sc), (1, .ref (adc 0)), (2, .ref (adm 0)), (3, .ref (adm 11)), (4, .ref (adm 12)), (5, vi i)]) C dL_law_1816 (Nat.le_of_ble_eq_true rfl) rfl ?_
  refine T_aload_n (pc := 1818) C dL_law_1818 rfl 4 rfl ?_
  refine T_lmp (pc := 1819) C [] [] (fun o h9 hw => ct_X13_thrown (v4.1.1, v5.1, v4.1.2.2).2.1 hw o h9) kq_2 cm_X13_thrown rcm rfl rfl (Nat.le_of_ble_eq_true rfl) ⟨⟨by decide, by decide⟩, by show _ + 0 ≤ room_1.cells; have := rmC1; omega, by show _ + 0 ≤ room_1.slots; have := rmS1; omega⟩ (a' := a + 1) (b' := bb + 6) ⟨rfl, rfl⟩ dL_law_1819 (fun v6 hv6 => ?_)
  refine T_iload (pc := 1822) C dL_law_1822 1 rfl ?_
  refine T_icmp_eq (pc := 1824) C 1829 dL_law_1824 rfl hv6.1 hv4 (fun c7 => ?_) (fun c7 => ?_)
  · refine T_iload (pc := 1829) C dL_law_1829 1 rfl ?_
    refine T_if_ne (pc := 1831) C 1846 dL_law_1831 rfl hv4 (fun c8 => ?_) (fun c8 => ?_)
    · refine T_goto (pc := 1846) C 3728 dL_law_1846 rfl ?_
      refine T_iinc (pc := 3728) (L' := [(5, vi (i + 5)), (7, vi v5.2), (6, vi v4.2), (0, .ref sc), (1, .ref (adc 0)), (2, .ref (adm 0)), (3, .ref (adm 11)), (4, .ref (adm 12))]) C dL_law_3728 (Nat.le_of_ble_eq_true rfl) 7 rfl rfl ?_
      refine T_goto (pc := 3731) C 28 dL_law_3731 rfl ?_
      refine T_sub (L' := [(0, .ref sc), (1, .ref (adc 0)), (2, .ref (adm 0)), (3, .ref (adm 11)), (4, .ref (adm 12)), (5, vi (i + 5))]) [3, 4, 5, 6, 7, 0] rfl ?_
      exact ih (v4.1.1, v5.1, v4.1.2.2) (i + 5) _ _ (by unfold rng; omega) (stp (c := 1) ha (by decide)) (stp (c := 6) hb (by decide))
    · refine T_aload_n (pc := 1834) C dL_law_1834 rfl 5 rfl ?_
      refine T_iconst (pc := 1835) C dL_law_1835 ?_
      refine T_lald (pc := 1836) C dL_law_1836 (fun o9 => ?_)
      refine T_iload (pc := 1837) C dL_law_1837 0 rfl ?_
      refine T_i2l (pc := 1839) C hv5.1 dL_law_1839 ?_
      refine T_lcmp (pc := 1840) C o9 hv5.1 dL_law_1840 ?_
      refine T_if_eq (pc := 1841) C 1846 dL_law_1841 rfl (lcm_rng _ _) (fun c10 => ?_) (fun c10 => ?_)
      · refine T_goto (pc := 1846) C 3728 dL_law_1846 rfl ?_
        refine T_iinc (pc := 3728) (L' := [(5, vi (i + 5)), (7, vi v5.2), (6, vi v4.2), (0, .ref sc), (1, .ref (adc 0)), (2, .ref (adm 0)), (3, .ref (adm 11)), (4, .ref (adm 12))]) C dL_law_3728 (Nat.le_of_ble_eq_true rfl) 7 rfl rfl ?_
        refine T_goto (pc := 3731) C 28 dL_law_3731 rfl ?_
        refine T_sub (L' := [(0, .ref sc), (1, .ref (adc 0)), (2, .ref (adm 0)), (3, .ref (adm 11)), (4, .ref (adm 12)), (5, vi (i + 5))]) [3, 4, 5, 6, 7, 0] rfl ?_
        exact ih (v4.1.1, v5.1, v4.1.2.2) (i + 5) _ _ (by unfold rng; omega) (stp (c := 1) ha (by decide)) (stp (c := 6) hb (by decide))
      · refine T_iconst (pc := 1844) C dL_law_1844 ?_
        exact T_none
  · refine T_iconst (pc := 1827) C dL_law_1827 ?_
    exact T_none
noncomputable def f_law_26 (sq : Nat) (xs : Nat → Int32) (N : Nat) (rec : SL → Int → Option Unit) (σ : SL) (i : Int) : Option Unit :=
  if 0 ≤ (i + 1) ∧ (i + 1) < (sq : Int) then if 0 ≤ (i + 2) ∧ (i + 2) < (sq : Int) then if 0 ≤ (i + 3) ∧ (i + 3) < (sq : Int) then (f_L_nextTrip N σ (scv xs (i + 1)) (scv xs (i + 2)) (scv xs (i + 3))).bind fun v4 => (f_X13_nextTrip v4.1.2.1 (scv xs (i + 1)) (scv xs (i + 2)) (scv xs (i + 3))).bind fun v5 => (f_X13_thrown (v4.1.1, v5.1, v4.1.2.2).2.1).bind fun v6 => (if v6 = v4.2 then (if v4.2 = 0 then (if (lcm ((v4.1.1, v5.1, v4.1.2.2).2.2.1) v5.2) = 0 then rec (v4.1.1, v5.1, v4.1.2.2) (i + 5) else none) else rec (v4.1.1, v5.1, v4.1.2.2) (i + 5)) else none) else none else none else none
theorem lc_26 {X : vjX} {A : Nat → Prop} {Q : State → Prop} {cy : Nat → ClassId} {adc adm : Nat → Nat} {E : Nat → Nat → Nat} {G : va_G} {Z : vZ} {sa : Nat → Nat} {sc sq : Nat} {xs : Nat → Int32} (zk : Zk Z E) (zy : Zy Z E sa) (zs : ZS Z E) (zE : ZE Z) (zp : ZP Z) (zd : ZD Z E) (hst : X.2.1.stackTraces = false) (hZ : Zx Z X (YL cy adc adm E G A 9 Q)) (sx : SX X A sc sq xs) (hL : sq ≤ 2560) (C : Cx X (YL cy adc adm E G A 9 Q) cL_law RL (some .boolean) room_1 (tyL cy)) (N : Nat) (n : Nat) (rec : SL → Int → Option Unit) (ih : ∀ (σ : SL) (i : Int) (a bb : Nat), rng i → a + n * 1000 ≤ 600000 → bb + n * 13000 ≤ 7200000 → T X (YL cy adc adm E G A 9 Q) (fun (_ : Unit) => ∀ (q : SL) (a bb : Nat), a ≤ 600000 → bb ≤ 7200000 → J X (YL cy adc adm E G A 9 Q) a bb 3734 [] [] q) a bb 28 [(0, .ref sc), (1, .ref (adc 0)), (2, .ref (adm 0)), (3, .ref (adm 11)), (4, .ref (adm 12)), (5, vi i)] [] σ (rec σ i)) (σ : SL) (i : Int) (a bb : Nat) (hi : rng i) (hi0 : 0 ≤ i ∧ i < (sq : Int)) (ha : a + (n + 1) * 1000 ≤ 600000) (hb : bb + (n + 1) * 13000 ≤ 7200000) : T X (YL cy adc adm E G A 9 Q) (fun (_ : Unit) => ∀ (q : SL) (a bb : Nat), a ≤ 600000 → bb ≤ 7200000 → J X (YL cy adc adm E G A 9 Q) a bb 3734 [] [] q) a bb 1849 [(0, .ref sc), (1, .ref (adc 0)), (2, .ref (adm 0)), (3, .ref (adm 11)), (4, .ref (adm 12)), (5, vi i)] [] σ (f_law_26 sq xs N rec σ i) := by
  have hsl : sq ≤ 2147483647 := by omega
  have hsq : rng (sq : Int) := by unfold rng; omega
  unfold f_law_26
  refine T_aload_n (pc := 1849) C dL_law_1849 rfl 1 rfl ?_
  refine T_aload_n (pc := 1850) C dL_law_1850 rfl 0 rfl ?_
  refine T_iload (pc := 1851) C dL_law_1851 5 rfl ?_
  refine T_iconst (pc := 1853) C dL_law_1853 ?_
  refine T_iadd (pc := 1854) C dL_law_1854 ?_
  refine T_guard (fun g1 => ?_)
  refine T_sld sx (pc := 1855) C hsl g1 dL_law_1855 ?_
  refine T_aload_n (pc := 1856) C dL_law_1856 rfl 0 rfl ?_
  refine T_iload (pc := 1857) C dL_law_1857 5 rfl ?_
  refine T_iconst (pc := 1859) C dL_law_1859 ?_
  refine T_iadd (pc := 1860) C dL_law_1860 ?_
  refine T_guard (fun g2 => ?_)
  refine T_sld sx (pc := 1861) C hsl g2 dL_law_1861 ?_
  refine T_aload_n (pc := 1862) C dL_law_1862 rfl 0 rfl ?_
  refine T_iload (pc := 1863) C dL_law_1863 5 rfl ?_
  refine T_iconst (pc := 1865) C dL_law_1865 ?_
  refine T_iadd (pc := 1866) C dL_law_1866 ?_
  refine T_guard (fun g3 => ?_)
  refine T_sld sx (pc := 1867) C hsl g3 dL_law_1867 ?_
  refine T_aload_n (pc := 1868) C dL_law_1868 rfl 3 rfl ?_
  refine T_lh (pc := 1869) zk.1 hZ C [.ref (adc 0), vi (scv xs (i + 1)), vi (scv xs (i + 2)), vi (scv xs (i + 3)), .ref (adm 11)] [] (fun o h9 hw => ct_L_nextTrip zk zy zs zE hst N σ (scv xs (i + 1)) (scv xs (i + 2)) (scv xs (i + 3)) (scv_rng _ _) (scv_rng _ _) (scv_rng _ _) hw o h9) kq_53 cm_L_nextTrip rfl rfl (Nat.le_of_ble_eq_true rfl) ⟨⟨by decide, by decide⟩, by show _ + 1 ≤ room_1.cells; have := rmC1; omega, by show _ + 6 ≤ room_1.slots; have := rmS1; omega⟩ (a' := a + 1) (b' := bb + 6) ⟨rfl, rfl⟩ dL_law_1869 (fun v4 hv4 => ?_)
  refine T_istore (pc := 1872) (L' := [(6, vi v4.2), (0, .ref sc), (1, .ref (adc 0)), (2, .ref (adm 0)), (3, .ref (adm 11)), (4, .ref (adm 12)), (5, vi i)]) C dL_law_1872 (Nat.le_of_ble_eq_true rfl) rfl ?_
  refine T_aload_n (pc := 1874) C dL_law_1874 rfl 3 rfl ?_
  refine T_aload_n (pc := 1875) C dL_law_1875 rfl 1 rfl ?_
  refine T_iload (pc := 1876) C dL_law_1876 6 rfl ?_
  refine T_iconst (pc := 1878) C dL_law_1878 ?_
  refine T_iadd (pc := 1879) C dL_law_1879 ?_
  refine T_sld sx (pc := 1880) C hsl g1 dL_law_1880 ?_
  refine T_aload_n (pc := 1881) C dL_law_1881 rfl 1 rfl ?_
  refine T_iload (pc := 1882) C dL_law_1882 6 rfl ?_
  refine T_iconst (pc := 1884) C dL_law_1884 ?_
  refine T_iadd (pc := 1885) C dL_law_1885 ?_
  refine T_sld sx (pc := 1886) C hsl g2 dL_law_1886 ?_
  refine T_aload_n (pc := 1887) C dL_law_1887 rfl 1 rfl ?_
  refine T_iload (pc := 1888) C dL_law_1888 6 rfl ?_
  refine T_iconst (pc := 1890) C dL_law_1890 ?_
  refine T_iadd (pc := 1891) C dL_law_1891 ?_
  refine T_sld sx (pc := 1892) C hsl g3 dL_law_1892 ?_
  refine T_lmi (pc := 1893) C [vi (scv xs (i + 1)), vi (scv xs (i + 2)), vi (scv xs (i + 3))] [] (fun o h9 hw => ct_X13_nextTrip v4.1.2.1 (scv xs (i + 1)) (scv xs (i + 2)) (scv xs (i + 3)) (scv_rng _ _) (scv_rng _ _) (scv_rng _ _) hw o h9) kq_54 cm_X13_nextTrip rcm rfl rfl (Nat.le_of_ble_eq_true rfl) ⟨⟨by decide, by decide⟩, by show _ + 0 ≤ room_1.cells; have := rmC1; omega, by show _ + 0 ≤ room_1.slots; have := rmS1; omega⟩ (a' := a + 1) (b' := bb + 6) ⟨rfl, rfl⟩ dL_law_1893 (fun v5 hv5 => ?_)
  refine T_istore (pc := 1896) (L' := [(7, vi v5.2), (6, vi v4.2), (0, .ref sc), (1, .ref (adc 0)), (2, .ref (adm 0)), (3, .ref (adm 11)), (4, .ref (adm 12)), (5, vi i)]) C dL_law_1896 (Nat.le_of_ble_eq_true rfl) rfl ?_
  refine T_aload_n (pc := 1898) C dL_law_1898 rfl 4 rfl ?_
  refine T_lmp (pc := 1899) C [] [] (fun o h9 hw => ct_X13_thrown (v4.1.1, v5.1, v4.1.2.2).2.1 hw o h9) kq_2 cm_X13_thrown rcm rfl rfl (Nat.le_of_ble_eq_true rfl) ⟨⟨by decide, by decide⟩, by show _ + 0 ≤ room_1.cells; have := rmC1; omega, by show _ + 0 ≤ room_1.slots; have := rmS1; omega⟩ (a' := a + 1) (b' := bb + 6) ⟨rfl, rfl⟩ dL_law_1899 (fun v6 hv6 => ?_)
  refine T_iload (pc := 1902) C dL_law_1902 1 rfl ?_
  refine T_icmp_eq (pc := 1904) C 1909 dL_law_1904 rfl hv6.1 hv4 (fun c7 => ?_) (fun c7 => ?_)
  · refine T_iload (pc := 1909) C dL_law_1909 1 rfl ?_
    refine T_if_ne (pc := 1911) C 1926 dL_law_1911 rfl hv4 (fun c8 => ?_) (fun c8 => ?_)
    · refine T_goto (pc := 1926) C 3728 dL_law_1926 rfl ?_
      refine T_iinc (pc := 3728) (L' := [(5, vi (i + 5)), (7, vi v5.2), (6, vi v4.2), (0, .ref sc), (1, .ref (adc 0)), (2, .ref (adm 0)), (3, .ref (adm 11)), (4, .ref (adm 12))]) C dL_law_3728 (Nat.le_of_ble_eq_true rfl) 7 rfl rfl ?_
      refine T_goto (pc := 3731) C 28 dL_law_3731 rfl ?_
      refine T_sub (L' := [(0, .ref sc), (1, .ref (adc 0)), (2, .ref (adm 0)), (3, .ref (adm 11)), (4, .ref (adm 12)), (5, vi (i + 5))]) [3, 4, 5, 6, 7, 0] rfl ?_
      exact ih (v4.1.1, v5.1, v4.1.2.2) (i + 5) _ _ (by unfold rng; omega) (stp (c := 1) ha (by decide)) (stp (c := 6) hb (by decide))
    · refine T_aload_n (pc := 1914) C dL_law_1914 rfl 5 rfl ?_
      refine T_iconst (pc := 1915) C dL_law_1915 ?_
      refine T_lald (pc := 1916) C dL_law_1916 (fun o9 => ?_)
      refine T_iload (pc := 1917) C dL_law_1917 0 rfl ?_
      refine T_i2l (pc := 1919) C hv5.1 dL_law_1919 ?_
      refine T_lcmp (pc := 1920) C o9 hv5.1 dL_law_1920 ?_
      refine T_if_eq (pc := 1921) C 1926 dL_law_1921 rfl (lcm_rng _ _) (fun c10 => ?_) (fun c10 => ?_)
      · refine T_goto (pc := 1926) C 3728 dL_law_1926 rfl ?_
        refine T_iinc (pc := 3728) (L' := [(5, vi (i + 5)), (7, vi v5.2), (6, vi v4.2), (0, .ref sc), (1, .ref (adc 0)), (2, .ref (adm 0)), (3, .ref (adm 11)), (4, .ref (adm 12))]) C dL_law_3728 (Nat.le_of_ble_eq_true rfl) 7 rfl rfl ?_
        refine T_goto (pc := 3731) C 28 dL_law_3731 rfl ?_
        refine T_sub (L' := [(0, .ref sc), (1, .ref (adc 0)), (2, .ref (adm 0)), (3, .ref (adm 11)), (4, .ref (adm 12)), (5, vi (i + 5))]) [3, 4, 5, 6, 7, 0] rfl ?_
        exact ih (v4.1.1, v5.1, v4.1.2.2) (i + 5) _ _ (by unfold rng; omega) (stp (c := 1) ha (by decide)) (stp (c := 6) hb (by decide))
      · refine T_iconst (pc := 1924) C dL_law_1924 ?_
        exact T_none
  · refine T_iconst (pc := 1907) C dL_law_1907 ?_
    exact T_none
noncomputable def f_law_27 (sq : Nat) (xs : Nat → Int32) (N : Nat) (rec : SL → Int → Option Unit) (σ : SL) (i : Int) : Option Unit :=
  if 0 ≤ (i + 1) ∧ (i + 1) < (sq : Int) then if 0 ≤ (i + 2) ∧ (i + 2) < (sq : Int) then if 0 ≤ (i + 3) ∧ (i + 3) < (sq : Int) then (f_L_nextTripBySearch N σ (scv xs (i + 1)) (scv xs (i + 2)) (scv xs (i + 3))).bind fun v4 => (f_X13_nextTripBySearch v4.1.2.1 (scv xs (i + 1)) (scv xs (i + 2)) (scv xs (i + 3))).bind fun v5 => (f_X13_thrown (v4.1.1, v5.1, v4.1.2.2).2.1).bind fun v6 => (if v6 = v4.2 then (if v4.2 = 0 then (if (lcm ((v4.1.1, v5.1, v4.1.2.2).2.2.1) v5.2) = 0 then rec (v4.1.1, v5.1, v4.1.2.2) (i + 5) else none) else rec (v4.1.1, v5.1, v4.1.2.2) (i + 5)) else none) else none else none else none
theorem lc_27 {X : vjX} {A : Nat → Prop} {Q : State → Prop} {cy : Nat → ClassId} {adc adm : Nat → Nat} {E : Nat → Nat → Nat} {G : va_G} {Z : vZ} {sa : Nat → Nat} {sc sq : Nat} {xs : Nat → Int32} (zk : Zk Z E) (zy : Zy Z E sa) (zs : ZS Z E) (zE : ZE Z) (zp : ZP Z) (zd : ZD Z E) (hst : X.2.1.stackTraces = false) (hZ : Zx Z X (YL cy adc adm E G A 9 Q)) (sx : SX X A sc sq xs) (hL : sq ≤ 2560) (C : Cx X (YL cy adc adm E G A 9 Q) cL_law RL (some .boolean) room_1 (tyL cy)) (N : Nat) (n : Nat) (rec : SL → Int → Option Unit) (ih : ∀ (σ : SL) (i : Int) (a bb : Nat), rng i → a + n * 1000 ≤ 600000 → bb + n * 13000 ≤ 7200000 → T X (YL cy adc adm E G A 9 Q) (fun (_ : Unit) => ∀ (q : SL) (a bb : Nat), a ≤ 600000 → bb ≤ 7200000 → J X (YL cy adc adm E G A 9 Q) a bb 3734 [] [] q) a bb 28 [(0, .ref sc), (1, .ref (adc 0)), (2, .ref (adm 0)), (3, .ref (adm 11)), (4, .ref (adm 12)), (5, vi i)] [] σ (rec σ i)) (σ : SL) (i : Int) (a bb : Nat) (hi : rng i) (hi0 : 0 ≤ i ∧ i < (sq : Int)) (ha : a + (n + 1) * 1000 ≤ 600000) (hb : bb + (n + 1) * 13000 ≤ 7200000) : T X (YL cy adc adm E G A 9 Q) (fun (_ : Unit) => ∀ (q : SL) (a bb : Nat), a ≤ 600000 → bb ≤ 7200000 → J X (YL cy adc adm E G A 9 Q) a bb 3734 [] [] q) a bb 1929 [(0, .ref sc), (1, .ref (adc 0)), (2, .ref (adm 0)), (3, .ref (adm 11)), (4, .ref (adm 12)), (5, vi i)] [] σ (f_law_27 sq xs N rec σ i) := by
  have hsl : sq ≤ 2147483647 := by omega
  have hsq : rng (sq : Int) := by unfold rng; omega
  unfold f_law_27
  refine T_aload_n (pc := 1929) C dL_law_1929 rfl 1 rfl ?_
  refine T_aload_n (pc := 1930) C dL_law_1930 rfl 0 rfl ?_
  refine T_iload (pc := 1931) C dL_law_1931 5 rfl ?_
  refine T_iconst (pc := 1933) C dL_law_1933 ?_
  refine T_iadd (pc := 1934) C dL_law_1934 ?_
  refine T_guard (fun g1 => ?_)
  refine T_sld sx (pc := 1935) C hsl g1 dL_law_1935 ?_
  refine T_aload_n (pc := 1936) C dL_law_1936 rfl 0 rfl ?_
  refine T_iload (pc := 1937) C dL_law_1937 5 rfl ?_
  refine T_iconst (pc := 1939) C dL_law_1939 ?_
  refine T_iadd (pc := 1940) C dL_law_1940 ?_
  refine T_guard (fun g2 => ?_)
  refine T_sld sx (pc := 1941) C hsl g2 dL_law_1941 ?_
  refine T_aload_n (pc := 1942) C dL_law_1942 rfl 0 rfl ?_
  refine T_iload (pc := 1943) C dL_law_1943 5 rfl ?_
  refine T_iconst (pc := 1945) C dL_law_1945 ?_
  refine T_iadd (pc := 1946) C dL_law_1946 ?_
  refine T_guard (fun g3 => ?_)
  refine T_sld sx (pc := 1947) C hsl g3 dL_law_1947 ?_
  refine T_aload_n (pc := 1948) C dL_law_1948 rfl 3 rfl ?_
  refine T_lh (pc := 1949) zk.1 hZ C [.ref (adc 0), vi (scv xs (i + 1)), vi (scv xs (i + 2)), vi (scv xs (i + 3)), .ref (adm 11)] [] (fun o h9 hw => ct_L_nextTripBySearch zk zy zs zE hst N σ (scv xs (i + 1)) (scv xs (i + 2)) (scv xs (i + 3)) (scv_rng _ _) (scv_rng _ _) (scv_rng _ _) hw o h9) kq_55 cm_L_nextTripBySearch rfl rfl (Nat.le_of_ble_eq_true rfl) ⟨⟨by decide, by decide⟩, by show _ + 1 ≤ room_1.cells; have := rmC1; omega, by show _ + 6 ≤ room_1.slots; have := rmS1; omega⟩ (a' := a + 1) (b' := bb + 6) ⟨rfl, rfl⟩ dL_law_1949 (fun v4 hv4 => ?_)
  refine T_istore (pc := 1952) (L' := [(6, vi v4.2), (0, .ref sc), (1, .ref (adc 0)), (2, .ref (adm 0)), (3, .ref (adm 11)), (4, .ref (adm 12)), (5, vi i)]) C dL_law_1952 (Nat.le_of_ble_eq_true rfl) rfl ?_
  refine T_aload_n (pc := 1954) C dL_law_1954 rfl 3 rfl ?_
  refine T_aload_n (pc := 1955) C dL_law_1955 rfl 1 rfl ?_
  refine T_iload (pc := 1956) C dL_law_1956 6 rfl ?_
  refine T_iconst (pc := 1958) C dL_law_1958 ?_
  refine T_iadd (pc := 1959) C dL_law_1959 ?_
  refine T_sld sx (pc := 1960) C hsl g1 dL_law_1960 ?_
  refine T_aload_n (pc := 1961) C dL_law_1961 rfl 1 rfl ?_
  refine T_iload (pc := 1962) C dL_law_1962 6 rfl ?_
  refine T_iconst (pc := 1964) C dL_law_1964 ?_
  refine T_iadd (pc := 1965) C dL_law_1965 ?_
  refine T_sld sx (pc := 1966) C hsl g2 dL_law_1966 ?_
  refine T_aload_n (pc := 1967) C dL_law_1967 rfl 1 rfl ?_
  refine T_iload (pc := 1968) C dL_law_1968 6 rfl ?_
  refine T_iconst (pc := 1970) C dL_law_1970 ?_
  refine T_iadd (pc := 1971) C dL_law_1971 ?_
  refine T_sld sx (pc := 1972) C hsl g3 dL_law_1972 ?_
  refine T_lmi (pc := 1973) C [vi (scv xs (i + 1)), vi (scv xs (i + 2)), vi (scv xs (i + 3))] [] (fun o h9 hw => ct_X13_nextTripBySearch v4.1.2.1 (scv xs (i + 1)) (scv xs (i + 2)) (scv xs (i + 3)) (scv_rng _ _) (scv_rng _ _) (scv_rng _ _) hw o h9) kq_56 cm_X13_nextTripBySearch rcm rfl rfl (Nat.le_of_ble_eq_true rfl) ⟨⟨by decide, by decide⟩, by show _ + 0 ≤ room_1.cells; have := rmC1; omega, by show _ + 0 ≤ room_1.slots; have := rmS1; omega⟩ (a' := a + 1) (b' := bb + 6) ⟨rfl, rfl⟩ dL_law_1973 (fun v5 hv5 => ?_)
  refine T_istore (pc := 1976) (L' := [(7, vi v5.2), (6, vi v4.2), (0, .ref sc), (1, .ref (adc 0)), (2, .ref (adm 0)), (3, .ref (adm 11)), (4, .ref (adm 12)), (5, vi i)]) C dL_law_1976 (Nat.le_of_ble_eq_true rfl) rfl ?_
  refine T_aload_n (pc := 1978) C dL_law_1978 rfl 4 rfl ?_
  refine T_lmp (pc := 1979) C [] [] (fun o h9 hw => ct_X13_thrown (v4.1.1, v5.1, v4.1.2.2).2.1 hw o h9) kq_2 cm_X13_thrown rcm rfl rfl (Nat.le_of_ble_eq_true rfl) ⟨⟨by decide, by decide⟩, by show _ + 0 ≤ room_1.cells; have := rmC1; omega, by show _ + 0 ≤ room_1.slots; have := rmS1; omega⟩ (a' := a + 1) (b' := bb + 6) ⟨rfl, rfl⟩ dL_law_1979 (fun v6 hv6 => ?_)
  refine T_iload (pc := 1982) C dL_law_1982 1 rfl ?_
  refine T_icmp_eq (pc := 1984) C 1989 dL_law_1984 rfl hv6.1 hv4 (fun c7 => ?_) (fun c7 => ?_)
  · refine T_iload (pc := 1989) C dL_law_1989 1 rfl ?_
    refine T_if_ne (pc := 1991) C 2006 dL_law_1991 rfl hv4 (fun c8 => ?_) (fun c8 => ?_)
    · refine T_goto (pc := 2006) C 3728 dL_law_2006 rfl ?_
      refine T_iinc (pc := 3728) (L' := [(5, vi (i + 5)), (7, vi v5.2), (6, vi v4.2), (0, .ref sc), (1, .ref (adc 0)), (2, .ref (adm 0)), (3, .ref (adm 11)), (4, .ref (adm 12))]) C dL_law_3728 (Nat.le_of_ble_eq_true rfl) 7 rfl rfl ?_
      refine T_goto (pc := 3731) C 28 dL_law_3731 rfl ?_
      refine T_sub (L' := [(0, .ref sc), (1, .ref (adc 0)), (2, .ref (adm 0)), (3, .ref (adm 11)), (4, .ref (adm 12)), (5, vi (i + 5))]) [3, 4, 5, 6, 7, 0] rfl ?_
      exact ih (v4.1.1, v5.1, v4.1.2.2) (i + 5) _ _ (by unfold rng; omega) (stp (c := 1) ha (by decide)) (stp (c := 6) hb (by decide))
    · refine T_aload_n (pc := 1994) C dL_law_1994 rfl 5 rfl ?_
      refine T_iconst (pc := 1995) C dL_law_1995 ?_
      refine T_lald (pc := 1996) C dL_law_1996 (fun o9 => ?_)
      refine T_iload (pc := 1997) C dL_law_1997 0 rfl ?_
      refine T_i2l (pc := 1999) C hv5.1 dL_law_1999 ?_
      refine T_lcmp (pc := 2000) C o9 hv5.1 dL_law_2000 ?_
      refine T_if_eq (pc := 2001) C 2006 dL_law_2001 rfl (lcm_rng _ _) (fun c10 => ?_) (fun c10 => ?_)
      · refine T_goto (pc := 2006) C 3728 dL_law_2006 rfl ?_
        refine T_iinc (pc := 3728) (L' := [(5, vi (i + 5)), (7, vi v5.2), (6, vi v4.2), (0, .ref sc), (1, .ref (adc 0)), (2, .ref (adm 0)), (3, .ref (adm 11)), (4, .ref (adm 12))]) C dL_law_3728 (Nat.le_of_ble_eq_true rfl) 7 rfl rfl ?_
        refine T_goto (pc := 3731) C 28 dL_law_3731 rfl ?_
        refine T_sub (L' := [(0, .ref sc), (1, .ref (adc 0)), (2, .ref (adm 0)), (3, .ref (adm 11)), (4, .ref (adm 12)), (5, vi (i + 5))]) [3, 4, 5, 6, 7, 0] rfl ?_
        exact ih (v4.1.1, v5.1, v4.1.2.2) (i + 5) _ _ (by unfold rng; omega) (stp (c := 1) ha (by decide)) (stp (c := 6) hb (by decide))
      · refine T_iconst (pc := 2004) C dL_law_2004 ?_
        exact T_none
  · refine T_iconst (pc := 1987) C dL_law_1987 ?_
    exact T_none
noncomputable def f_law_28 (sq : Nat) (xs : Nat → Int32) (N : Nat) (rec : SL → Int → Option Unit) (σ : SL) (i : Int) : Option Unit :=
  if 0 ≤ (i + 1) ∧ (i + 1) < (sq : Int) then if 0 ≤ (i + 2) ∧ (i + 2) < (sq : Int) then if 0 ≤ (i + 3) ∧ (i + 3) < (sq : Int) then (f_L_earliestArrival N σ (scv xs (i + 1)) (scv xs (i + 2)) (scv xs (i + 3))).bind fun v4 => (f_X13_earliestArrival N v4.1.2.1 (scv xs (i + 1)) (scv xs (i + 2)) (scv xs (i + 3))).bind fun v5 => (f_X13_thrown (v4.1.1, v5.1, v4.1.2.2).2.1).bind fun v6 => (if v6 = v4.2 then (if v4.2 = 0 then (if (lcm ((v4.1.1, v5.1, v4.1.2.2).2.2.1) v5.2) = 0 then rec (v4.1.1, v5.1, v4.1.2.2) (i + 5) else none) else rec (v4.1.1, v5.1, v4.1.2.2) (i + 5)) else none) else none else none else none
theorem lc_28 {X : vjX} {A : Nat → Prop} {Q : State → Prop} {cy : Nat → ClassId} {adc adm : Nat → Nat} {E : Nat → Nat → Nat} {G : va_G} {Z : vZ} {sa : Nat → Nat} {sc sq : Nat} {xs : Nat → Int32} (zk : Zk Z E) (zy : Zy Z E sa) (zs : ZS Z E) (zE : ZE Z) (zp : ZP Z) (zd : ZD Z E) (hst : X.2.1.stackTraces = false) (hZ : Zx Z X (YL cy adc adm E G A 9 Q)) (sx : SX X A sc sq xs) (hL : sq ≤ 2560) (C : Cx X (YL cy adc adm E G A 9 Q) cL_law RL (some .boolean) room_1 (tyL cy)) (N : Nat) (n : Nat) (rec : SL → Int → Option Unit) (ih : ∀ (σ : SL) (i : Int) (a bb : Nat), rng i → a + n * 1000 ≤ 600000 → bb + n * 13000 ≤ 7200000 → T X (YL cy adc adm E G A 9 Q) (fun (_ : Unit) => ∀ (q : SL) (a bb : Nat), a ≤ 600000 → bb ≤ 7200000 → J X (YL cy adc adm E G A 9 Q) a bb 3734 [] [] q) a bb 28 [(0, .ref sc), (1, .ref (adc 0)), (2, .ref (adm 0)), (3, .ref (adm 11)), (4, .ref (adm 12)), (5, vi i)] [] σ (rec σ i)) (σ : SL) (i : Int) (a bb : Nat) (hi : rng i) (hi0 : 0 ≤ i ∧ i < (sq : Int)) (ha : a + (n + 1) * 1000 ≤ 600000) (hb : bb + (n + 1) * 13000 ≤ 7200000) : T X (YL cy adc adm E G A 9 Q) (fun (_ : Unit) => ∀ (q : SL) (a bb : Nat), a ≤ 600000 → bb ≤ 7200000 → J X (YL cy adc adm E G A 9 Q) a bb 3734 [] [] q) a bb 2009 [(0, .ref sc), (1, .ref (adc 0)), (2, .ref (adm 0)), (3, .ref (adm 11)), (4, .ref (adm 12)), (5, vi i)] [] σ (f_law_28 sq xs N rec σ i) := by
  have hsl : sq ≤ 2147483647 := by omega
  have hsq : rng (sq : Int) := by unfold rng; omega
  unfold f_law_28
  refine T_aload_n (pc := 2009) C dL_law_2009 rfl 1 rfl ?_
  refine T_aload_n (pc := 2010) C dL_law_2010 rfl 0 rfl ?_
  refine T_iload (pc := 2011) C dL_law_2011 5 rfl ?_
  refine T_iconst (pc := 2013) C dL_law_2013 ?_
  refine T_iadd (pc := 2014) C dL_law_2014 ?_
  refine T_guard (fun g1 => ?_)
  refine T_sld sx (pc := 2015) C hsl g1 dL_law_2015 ?_
  refine T_aload_n (pc := 2016) C dL_law_2016 rfl 0 rfl ?_
  refine T_iload (pc := 2017) C dL_law_2017 5 rfl ?_
  refine T_iconst (pc := 2019) C dL_law_2019 ?_
  refine T_iadd (pc := 2020) C dL_law_2020 ?_
  refine T_guard (fun g2 => ?_)
  refine T_sld sx (pc := 2021) C hsl g2 dL_law_2021 ?_
  refine T_aload_n (pc := 2022) C dL_law_2022 rfl 0 rfl ?_
  refine T_iload (pc := 2023) C dL_law_2023 5 rfl ?_
  refine T_iconst (pc := 2025) C dL_law_2025 ?_
  refine T_iadd (pc := 2026) C dL_law_2026 ?_
  refine T_guard (fun g3 => ?_)
  refine T_sld sx (pc := 2027) C hsl g3 dL_law_2027 ?_
  refine T_aload_n (pc := 2028) C dL_law_2028 rfl 3 rfl ?_
  refine T_lh (pc := 2029) zk.1 hZ C [.ref (adc 0), vi (scv xs (i + 1)), vi (scv xs (i + 2)), vi (scv xs (i + 3)), .ref (adm 11)] [] (fun o h9 hw => ct_L_earliestArrival zk zy zs zE hst N σ (scv xs (i + 1)) (scv xs (i + 2)) (scv xs (i + 3)) (scv_rng _ _) (scv_rng _ _) (scv_rng _ _) hw o h9) kq_57 cm_L_earliestArrival rfl rfl (Nat.le_of_ble_eq_true rfl) ⟨⟨by decide, by decide⟩, by show _ + 2 ≤ room_1.cells; have := rmC1; omega, by show _ + 12 ≤ room_1.slots; have := rmS1; omega⟩ (a' := a + 2) (b' := bb + 12) ⟨rfl, rfl⟩ dL_law_2029 (fun v4 hv4 => ?_)
  refine T_istore (pc := 2032) (L' := [(6, vi v4.2), (0, .ref sc), (1, .ref (adc 0)), (2, .ref (adm 0)), (3, .ref (adm 11)), (4, .ref (adm 12)), (5, vi i)]) C dL_law_2032 (Nat.le_of_ble_eq_true rfl) rfl ?_
  refine T_aload_n (pc := 2034) C dL_law_2034 rfl 3 rfl ?_
  refine T_aload_n (pc := 2035) C dL_law_2035 rfl 1 rfl ?_
  refine T_iload (pc := 2036) C dL_law_2036 6 rfl ?_
  refine T_iconst (pc := 2038) C dL_law_2038 ?_
  refine T_iadd (pc := 2039) C dL_law_2039 ?_
  refine T_sld sx (pc := 2040) C hsl g1 dL_law_2040 ?_
  refine T_aload_n (pc := 2041) C dL_law_2041 rfl 1 rfl ?_
  refine T_iload (pc := 2042) C dL_law_2042 6 rfl ?_
  refine T_iconst (pc := 2044) C dL_law_2044 ?_
  refine T_iadd (pc := 2045) C dL_law_2045 ?_
  refine T_sld sx (pc := 2046) C hsl g2 dL_law_2046 ?_
  refine T_aload_n (pc := 2047) C dL_law_2047 rfl 1 rfl ?_
  refine T_iload (pc := 2048) C dL_law_2048 6 rfl ?_
  refine T_iconst (pc := 2050) C dL_law_2050 ?_
  refine T_iadd (pc := 2051) C dL_law_2051 ?_
  refine T_sld sx (pc := 2052) C hsl g3 dL_law_2052 ?_
  refine T_lmi (pc := 2053) C [vi (scv xs (i + 1)), vi (scv xs (i + 2)), vi (scv xs (i + 3))] [] (fun o h9 hw => ct_X13_earliestArrival N v4.1.2.1 (scv xs (i + 1)) (scv xs (i + 2)) (scv xs (i + 3)) (scv_rng _ _) (scv_rng _ _) (scv_rng _ _) hw o h9) kq_58 cm_X13_earliestArrival rcm rfl rfl (Nat.le_of_ble_eq_true rfl) ⟨⟨by decide, by decide⟩, by show _ + 0 ≤ room_1.cells; have := rmC1; omega, by show _ + 0 ≤ room_1.slots; have := rmS1; omega⟩ (a' := a + 2) (b' := bb + 12) ⟨rfl, rfl⟩ dL_law_2053 (fun v5 hv5 => ?_)
  refine T_istore (pc := 2056) (L' := [(7, vi v5.2), (6, vi v4.2), (0, .ref sc), (1, .ref (adc 0)), (2, .ref (adm 0)), (3, .ref (adm 11)), (4, .ref (adm 12)), (5, vi i)]) C dL_law_2056 (Nat.le_of_ble_eq_true rfl) rfl ?_
  refine T_aload_n (pc := 2058) C dL_law_2058 rfl 4 rfl ?_
  refine T_lmp (pc := 2059) C [] [] (fun o h9 hw => ct_X13_thrown (v4.1.1, v5.1, v4.1.2.2).2.1 hw o h9) kq_2 cm_X13_thrown rcm rfl rfl (Nat.le_of_ble_eq_true rfl) ⟨⟨by decide, by decide⟩, by show _ + 0 ≤ room_1.cells; have := rmC1; omega, by show _ + 0 ≤ room_1.slots; have := rmS1; omega⟩ (a' := a + 2) (b' := bb + 12) ⟨rfl, rfl⟩ dL_law_2059 (fun v6 hv6 => ?_)
  refine T_iload (pc := 2062) C dL_law_2062 1 rfl ?_
  refine T_icmp_eq (pc := 2064) C 2069 dL_law_2064 rfl hv6.1 hv4 (fun c7 => ?_) (fun c7 => ?_)
  · refine T_iload (pc := 2069) C dL_law_2069 1 rfl ?_
    refine T_if_ne (pc := 2071) C 2086 dL_law_2071 rfl hv4 (fun c8 => ?_) (fun c8 => ?_)
    · refine T_goto (pc := 2086) C 3728 dL_law_2086 rfl ?_
      refine T_iinc (pc := 3728) (L' := [(5, vi (i + 5)), (7, vi v5.2), (6, vi v4.2), (0, .ref sc), (1, .ref (adc 0)), (2, .ref (adm 0)), (3, .ref (adm 11)), (4, .ref (adm 12))]) C dL_law_3728 (Nat.le_of_ble_eq_true rfl) 7 rfl rfl ?_
      refine T_goto (pc := 3731) C 28 dL_law_3731 rfl ?_
      refine T_sub (L' := [(0, .ref sc), (1, .ref (adc 0)), (2, .ref (adm 0)), (3, .ref (adm 11)), (4, .ref (adm 12)), (5, vi (i + 5))]) [3, 4, 5, 6, 7, 0] rfl ?_
      exact ih (v4.1.1, v5.1, v4.1.2.2) (i + 5) _ _ (by unfold rng; omega) (stp (c := 2) ha (by decide)) (stp (c := 12) hb (by decide))
    · refine T_aload_n (pc := 2074) C dL_law_2074 rfl 5 rfl ?_
      refine T_iconst (pc := 2075) C dL_law_2075 ?_
      refine T_lald (pc := 2076) C dL_law_2076 (fun o9 => ?_)
      refine T_iload (pc := 2077) C dL_law_2077 0 rfl ?_
      refine T_i2l (pc := 2079) C hv5.1 dL_law_2079 ?_
      refine T_lcmp (pc := 2080) C o9 hv5.1 dL_law_2080 ?_
      refine T_if_eq (pc := 2081) C 2086 dL_law_2081 rfl (lcm_rng _ _) (fun c10 => ?_) (fun c10 => ?_)
      · refine T_goto (pc := 2086) C 3728 dL_law_2086 rfl ?_
        refine T_iinc (pc := 3728) (L' := [(5, vi (i + 5)), (7, vi v5.2), (6, vi v4.2), (0, .ref sc), (1, .ref (adc 0)), (2, .ref (adm 0)), (3, .ref (adm 11)), (4, .ref (adm 12))]) C dL_law_3728 (Nat.le_of_ble_eq_true rfl) 7 rfl rfl ?_
        refine T_goto (pc := 3731) C 28 dL_law_3731 rfl ?_
        refine T_sub (L' := [(0, .ref sc), (1, .ref (adc 0)), (2, .ref (adm 0)), (3, .ref (adm 11)), (4, .ref (adm 12)), (5, vi (i + 5))]) [3, 4, 5, 6, 7, 0] rfl ?_
        exact ih (v4.1.1, v5.1, v4.1.2.2) (i + 5) _ _ (by unfold rng; omega) (stp (c := 2) ha (by decide)) (stp (c := 12) hb (by decide))
      · refine T_iconst (pc := 2084) C dL_law_2084 ?_
        exact T_none
  · refine T_iconst (pc := 2067) C dL_law_2067 ?_
    exact T_none
noncomputable def f_law_29 (sq : Nat) (xs : Nat → Int32) (N : Nat) (rec : SL → Int → Option Unit) (σ : SL) (i : Int) : Option Unit :=
  if 0 ≤ (i + 1) ∧ (i + 1) < (sq : Int) then if 0 ≤ (i + 2) ∧ (i + 2) < (sq : Int) then if 0 ≤ (i + 3) ∧ (i + 3) < (sq : Int) then (f_L_earliestArrivalByRounds N σ (scv xs (i + 1)) (scv xs (i + 2)) (scv xs (i + 3))).bind fun v4 => (f_X13_earliestArrivalByRounds N v4.1.2.1 (scv xs (i + 1)) (scv xs (i + 2)) (scv xs (i + 3))).bind fun v5 => (f_X13_thrown (v4.1.1, v5.1, v4.1.2.2).2.1).bind fun v6 => (if v6 = v4.2 then (if v4.2 = 0 then (if (lcm ((v4.1.1, v5.1, v4.1.2.2).2.2.1) v5.2) = 0 then rec (v4.1.1, v5.1, v4.1.2.2) (i + 5) else none) else rec (v4.1.1, v5.1, v4.1.2.2) (i + 5)) else none) else none else none else none
theorem lc_29 {X : vjX} {A : Nat → Prop} {Q : State → Prop} {cy : Nat → ClassId} {adc adm : Nat → Nat} {E : Nat → Nat → Nat} {G : va_G} {Z : vZ} {sa : Nat → Nat} {sc sq : Nat} {xs : Nat → Int32} (zk : Zk Z E) (zy : Zy Z E sa) (zs : ZS Z E) (zE : ZE Z) (zp : ZP Z) (zd : ZD Z E) (hst : X.2.1.stackTraces = false) (hZ : Zx Z X (YL cy adc adm E G A 9 Q)) (sx : SX X A sc sq xs) (hL : sq ≤ 2560) (C : Cx X (YL cy adc adm E G A 9 Q) cL_law RL (some .boolean) room_1 (tyL cy)) (N : Nat) (n : Nat) (rec : SL → Int → Option Unit) (ih : ∀ (σ : SL) (i : Int) (a bb : Nat), rng i → a + n * 1000 ≤ 600000 → bb + n * 13000 ≤ 7200000 → T X (YL cy adc adm E G A 9 Q) (fun (_ : Unit) => ∀ (q : SL) (a bb : Nat), a ≤ 600000 → bb ≤ 7200000 → J X (YL cy adc adm E G A 9 Q) a bb 3734 [] [] q) a bb 28 [(0, .ref sc), (1, .ref (adc 0)), (2, .ref (adm 0)), (3, .ref (adm 11)), (4, .ref (adm 12)), (5, vi i)] [] σ (rec σ i)) (σ : SL) (i : Int) (a bb : Nat) (hi : rng i) (hi0 : 0 ≤ i ∧ i < (sq : Int)) (ha : a + (n + 1) * 1000 ≤ 600000) (hb : bb + (n + 1) * 13000 ≤ 7200000) : T X (YL cy adc adm E G A 9 Q) (fun (_ : Unit) => ∀ (q : SL) (a bb : Nat), a ≤ 600000 → bb ≤ 7200000 → J X (YL cy adc adm E G A 9 Q) a bb 3734 [] [] q) a bb 2089 [(0, .ref sc), (1, .ref (adc 0)), (2, .ref (adm 0)), (3, .ref (adm 11)), (4, .ref (adm 12)), (5, vi i)] [] σ (f_law_29 sq xs N rec σ i) := by
  have hsl : sq ≤ 2147483647 := by omega
  have hsq : rng (sq : Int) := by unfold rng; omega
  unfold f_law_29
  refine T_aload_n (pc := 2089) C dL_law_2089 rfl 1 rfl ?_
  refine T_aload_n (pc := 2090) C dL_law_2090 rfl 0 rfl ?_
  refine T_iload (pc := 2091) C dL_law_2091 5 rfl ?_
  refine T_iconst (pc := 2093) C dL_law_2093 ?_
  refine T_iadd (pc := 2094) C dL_law_2094 ?_
  refine T_guard (fun g1 => ?_)
  refine T_sld sx (pc := 2095) C hsl g1 dL_law_2095 ?_
  refine T_aload_n (pc := 2096) C dL_law_2096 rfl 0 rfl ?_
  refine T_iload (pc := 2097) C dL_law_2097 5 rfl ?_
  refine T_iconst (pc := 2099) C dL_law_2099 ?_
  refine T_iadd (pc := 2100) C dL_law_2100 ?_
  refine T_guard (fun g2 => ?_)
  refine T_sld sx (pc := 2101) C hsl g2 dL_law_2101 ?_
  refine T_aload_n (pc := 2102) C dL_law_2102 rfl 0 rfl ?_
  refine T_iload (pc := 2103) C dL_law_2103 5 rfl ?_
  refine T_iconst (pc := 2105) C dL_law_2105 ?_
  refine T_iadd (pc := 2106) C dL_law_2106 ?_
  refine T_guard (fun g3 => ?_)
  refine T_sld sx (pc := 2107) C hsl g3 dL_law_2107 ?_
  refine T_aload_n (pc := 2108) C dL_law_2108 rfl 3 rfl ?_
  refine T_lh (pc := 2109) zk.1 hZ C [.ref (adc 0), vi (scv xs (i + 1)), vi (scv xs (i + 2)), vi (scv xs (i + 3)), .ref (adm 11)] [] (fun o h9 hw => ct_L_earliestArrivalByRounds zk zy zs zE hst N σ (scv xs (i + 1)) (scv xs (i + 2)) (scv xs (i + 3)) (scv_rng _ _) (scv_rng _ _) (scv_rng _ _) hw o h9) kq_59 cm_L_earliestArrivalByRounds rfl rfl (Nat.le_of_ble_eq_true rfl) ⟨⟨by decide, by decide⟩, by show _ + 2 ≤ room_1.cells; have := rmC1; omega, by show _ + 12 ≤ room_1.slots; have := rmS1; omega⟩ (a' := a + 2) (b' := bb + 12) ⟨rfl, rfl⟩ dL_law_2109 (fun v4 hv4 => ?_)
  refine T_istore (pc := 2112) (L' := [(6, vi v4.2), (0, .ref sc), (1, .ref (adc 0)), (2, .ref (adm 0)), (3, .ref (adm 11)), (4, .ref (adm 12)), (5, vi i)]) C dL_law_2112 (Nat.le_of_ble_eq_true rfl) rfl ?_
  refine T_aload_n (pc := 2114) C dL_law_2114 rfl 3 rfl ?_
  refine T_aload_n (pc := 2115) C dL_law_2115 rfl 1 rfl ?_
  refine T_iload (pc := 2116) C dL_law_2116 6 rfl ?_
  refine T_iconst (pc := 2118) C dL_law_2118 ?_
  refine T_iadd (pc := 2119) C dL_law_2119 ?_
  refine T_sld sx (pc := 2120) C hsl g1 dL_law_2120 ?_
  refine T_aload_n (pc := 2121) C dL_law_2121 rfl 1 rfl ?_
  refine T_iload (pc := 2122) C dL_law_2122 6 rfl ?_
  refine T_iconst (pc := 2124) C dL_law_2124 ?_
  refine T_iadd (pc := 2125) C dL_law_2125 ?_
  refine T_sld sx (pc := 2126) C hsl g2 dL_law_2126 ?_
  refine T_aload_n (pc := 2127) C dL_law_2127 rfl 1 rfl ?_
  refine T_iload (pc := 2128) C dL_law_2128 6 rfl ?_
  refine T_iconst (pc := 2130) C dL_law_2130 ?_
  refine T_iadd (pc := 2131) C dL_law_2131 ?_
  refine T_sld sx (pc := 2132) C hsl g3 dL_law_2132 ?_
  refine T_lmi (pc := 2133) C [vi (scv xs (i + 1)), vi (scv xs (i + 2)), vi (scv xs (i + 3))] [] (fun o h9 hw => ct_X13_earliestArrivalByRounds N v4.1.2.1 (scv xs (i + 1)) (scv xs (i + 2)) (scv xs (i + 3)) (scv_rng _ _) (scv_rng _ _) (scv_rng _ _) hw o h9) kq_60 cm_X13_earliestArrivalByRounds rcm rfl rfl (Nat.le_of_ble_eq_true rfl) ⟨⟨by decide, by decide⟩, by show _ + 0 ≤ room_1.cells; have := rmC1; omega, by show _ + 0 ≤ room_1.slots; have := rmS1; omega⟩ (a' := a + 2) (b' := bb + 12) ⟨rfl, rfl⟩ dL_law_2133 (fun v5 hv5 => ?_)
  refine T_istore (pc := 2136) (L' := [(7, vi v5.2), (6, vi v4.2), (0, .ref sc), (1, .ref (adc 0)), (2, .ref (adm 0)), (3, .ref (adm 11)), (4, .ref (adm 12)), (5, vi i)]) C dL_law_2136 (Nat.le_of_ble_eq_true rfl) rfl ?_
  refine T_aload_n (pc := 2138) C dL_law_2138 rfl 4 rfl ?_
  refine T_lmp (pc := 2139) C [] [] (fun o h9 hw => ct_X13_thrown (v4.1.1, v5.1, v4.1.2.2).2.1 hw o h9) kq_2 cm_X13_thrown rcm rfl rfl (Nat.le_of_ble_eq_true rfl) ⟨⟨by decide, by decide⟩, by show _ + 0 ≤ room_1.cells; have := rmC1; omega, by show _ + 0 ≤ room_1.slots; have := rmS1; omega⟩ (a' := a + 2) (b' := bb + 12) ⟨rfl, rfl⟩ dL_law_2139 (fun v6 hv6 => ?_)
  refine T_iload (pc := 2142) C dL_law_2142 1 rfl ?_
  refine T_icmp_eq (pc := 2144) C 2149 dL_law_2144 rfl hv6.1 hv4 (fun c7 => ?_) (fun c7 => ?_)
  · refine T_iload (pc := 2149) C dL_law_2149 1 rfl ?_
    refine T_if_ne (pc := 2151) C 2166 dL_law_2151 rfl hv4 (fun c8 => ?_) (fun c8 => ?_)
    · refine T_goto (pc := 2166) C 3728 dL_law_2166 rfl ?_
      refine T_iinc (pc := 3728) (L' := [(5, vi (i + 5)), (7, vi v5.2), (6, vi v4.2), (0, .ref sc), (1, .ref (adc 0)), (2, .ref (adm 0)), (3, .ref (adm 11)), (4, .ref (adm 12))]) C dL_law_3728 (Nat.le_of_ble_eq_true rfl) 7 rfl rfl ?_
      refine T_goto (pc := 3731) C 28 dL_law_3731 rfl ?_
      refine T_sub (L' := [(0, .ref sc), (1, .ref (adc 0)), (2, .ref (adm 0)), (3, .ref (adm 11)), (4, .ref (adm 12)), (5, vi (i + 5))]) [3, 4, 5, 6, 7, 0] rfl ?_
      exact ih (v4.1.1, v5.1, v4.1.2.2) (i + 5) _ _ (by unfold rng; omega) (stp (c := 2) ha (by decide)) (stp (c := 12) hb (by decide))
    · refine T_aload_n (pc := 2154) C dL_law_2154 rfl 5 rfl ?_
      refine T_iconst (pc := 2155) C dL_law_2155 ?_
      refine T_lald (pc := 2156) C dL_law_2156 (fun o9 => ?_)
      refine T_iload (pc := 2157) C dL_law_2157 0 rfl ?_
      refine T_i2l (pc := 2159) C hv5.1 dL_law_2159 ?_
      refine T_lcmp (pc := 2160) C o9 hv5.1 dL_law_2160 ?_
      refine T_if_eq (pc := 2161) C 2166 dL_law_2161 rfl (lcm_rng _ _) (fun c10 => ?_) (fun c10 => ?_)
      · refine T_goto (pc := 2166) C 3728 dL_law_2166 rfl ?_
        refine T_iinc (pc := 3728) (L' := [(5, vi (i + 5)), (7, vi v5.2), (6, vi v4.2), (0, .ref sc), (1, .ref (adc 0)), (2, .ref (adm 0)), (3, .ref (adm 11)), (4, .ref (adm 12))]) C dL_law_3728 (Nat.le_of_ble_eq_true rfl) 7 rfl rfl ?_
        refine T_goto (pc := 3731) C 28 dL_law_3731 rfl ?_
        refine T_sub (L' := [(0, .ref sc), (1, .ref (adc 0)), (2, .ref (adm 0)), (3, .ref (adm 11)), (4, .ref (adm 12)), (5, vi (i + 5))]) [3, 4, 5, 6, 7, 0] rfl ?_
        exact ih (v4.1.1, v5.1, v4.1.2.2) (i + 5) _ _ (by unfold rng; omega) (stp (c := 2) ha (by decide)) (stp (c := 12) hb (by decide))
      · refine T_iconst (pc := 2164) C dL_law_2164 ?_
        exact T_none
  · refine T_iconst (pc := 2147) C dL_law_2147 ?_
    exact T_none
noncomputable def f_law_30 (sq : Nat) (xs : Nat → Int32) (N : Nat) (rec : SL → Int → Option Unit) (σ : SL) (i : Int) : Option Unit :=
  if 0 ≤ (i + 1) ∧ (i + 1) < (sq : Int) then if 0 ≤ (i + 2) ∧ (i + 2) < (sq : Int) then (f_L_fewestBoardings N σ (scv xs (i + 1)) (scv xs (i + 2))).bind fun v3 => (f_X13_fewestBoardings N v3.1.2.1 (scv xs (i + 1)) (scv xs (i + 2))).bind fun v4 => (f_X13_thrown (v3.1.1, v4.1, v3.1.2.2).2.1).bind fun v5 => (if v5 = v3.2 then (if v3.2 = 0 then (if (lcm ((v3.1.1, v4.1, v3.1.2.2).2.2.1) v4.2) = 0 then rec (v3.1.1, v4.1, v3.1.2.2) (i + 5) else none) else rec (v3.1.1, v4.1, v3.1.2.2) (i + 5)) else none) else none else none
theorem lc_30 {X : vjX} {A : Nat → Prop} {Q : State → Prop} {cy : Nat → ClassId} {adc adm : Nat → Nat} {E : Nat → Nat → Nat} {G : va_G} {Z : vZ} {sa : Nat → Nat} {sc sq : Nat} {xs : Nat → Int32} (zk : Zk Z E) (zy : Zy Z E sa) (zs : ZS Z E) (zE : ZE Z) (zp : ZP Z) (zd : ZD Z E) (hst : X.2.1.stackTraces = false) (hZ : Zx Z X (YL cy adc adm E G A 9 Q)) (sx : SX X A sc sq xs) (hL : sq ≤ 2560) (C : Cx X (YL cy adc adm E G A 9 Q) cL_law RL (some .boolean) room_1 (tyL cy)) (N : Nat) (n : Nat) (rec : SL → Int → Option Unit) (ih : ∀ (σ : SL) (i : Int) (a bb : Nat), rng i → a + n * 1000 ≤ 600000 → bb + n * 13000 ≤ 7200000 → T X (YL cy adc adm E G A 9 Q) (fun (_ : Unit) => ∀ (q : SL) (a bb : Nat), a ≤ 600000 → bb ≤ 7200000 → J X (YL cy adc adm E G A 9 Q) a bb 3734 [] [] q) a bb 28 [(0, .ref sc), (1, .ref (adc 0)), (2, .ref (adm 0)), (3, .ref (adm 11)), (4, .ref (adm 12)), (5, vi i)] [] σ (rec σ i)) (σ : SL) (i : Int) (a bb : Nat) (hi : rng i) (hi0 : 0 ≤ i ∧ i < (sq : Int)) (ha : a + (n + 1) * 1000 ≤ 600000) (hb : bb + (n + 1) * 13000 ≤ 7200000) : T X (YL cy adc adm E G A 9 Q) (fun (_ : Unit) => ∀ (q : SL) (a bb : Nat), a ≤ 600000 → bb ≤ 7200000 → J X (YL cy adc adm E G A 9 Q) a bb 3734 [] [] q) a bb 2169 [(0, .ref sc), (1, .ref (adc 0)), (2, .ref (adm 0)), (3, .ref (adm 11)), (4, .ref (adm 12)), (5, vi i)] [] σ (f_law_30 sq xs N rec σ i) := by
  have hsl : sq ≤ 2147483647 := by omega
  have hsq : rng (sq : Int) := by unfold rng; omega
  unfold f_law_30
  refine T_aload_n (pc := 2169) C dL_law_2169 rfl 1 rfl ?_
  refine T_aload_n (pc := 2170) C dL_law_2170 rfl 0 rfl ?_
  refine T_iload (pc := 2171) C dL_law_2171 5 rfl ?_
  refine T_iconst (pc := 2173) C dL_law_2173 ?_
  refine T_iadd (pc := 2174) C dL_law_2174 ?_
  refine T_guard (fun g1 => ?_)
  refine T_sld sx (pc := 2175) C hsl g1 dL_law_2175 ?_
  refine T_aload_n (pc := 2176) C dL_law_2176 rfl 0 rfl ?_
  refine T_iload (pc := 2177) C dL_law_2177 5 rfl ?_
  refine T_iconst (pc := 2179) C dL_law_2179 ?_
  refine T_iadd (pc := 2180) C dL_law_2180 ?_
  refine T_guard (fun g2 => ?_)
  refine T_sld sx (pc := 2181) C hsl g2 dL_law_2181 ?_
  refine T_aload_n (pc := 2182) C dL_law_2182 rfl 3 rfl ?_
  refine T_lh (pc := 2183) zk.1 hZ C [.ref (adc 0), vi (scv xs (i + 1)), vi (scv xs (i + 2)), .ref (adm 11)] [] (fun o h9 hw => ct_L_fewestBoardings zk zy zs zE hst N σ (scv xs (i + 1)) (scv xs (i + 2)) (scv_rng _ _) (scv_rng _ _) hw o h9) kq_61 cm_L_fewestBoardings rfl rfl (Nat.le_of_ble_eq_true rfl) ⟨⟨by decide, by decide⟩, by show _ + 2 ≤ room_1.cells; have := rmC1; omega, by show _ + 12 ≤ room_1.slots; have := rmS1; omega⟩ (a' := a + 2) (b' := bb + 12) ⟨rfl, rfl⟩ dL_law_2183 (fun v3 hv3 => ?_)
  refine T_istore (pc := 2186) (L' := [(6, vi v3.2), (0, .ref sc), (1, .ref (adc 0)), (2, .ref (adm 0)), (3, .ref (adm 11)), (4, .ref (adm 12)), (5, vi i)]) C dL_law_2186 (Nat.le_of_ble_eq_true rfl) rfl ?_
  refine T_aload_n (pc := 2188) C dL_law_2188 rfl 3 rfl ?_
  refine T_aload_n (pc := 2189) C dL_law_2189 rfl 1 rfl ?_
  refine T_iload (pc := 2190) C dL_law_2190 6 rfl ?_
  refine T_iconst (pc := 2192) C dL_law_2192 ?_
  refine T_iadd (pc := 2193) C dL_law_2193 ?_
  refine T_sld sx (pc := 2194) C hsl g1 dL_law_2194 ?_
  refine T_aload_n (pc := 2195) C dL_law_2195 rfl 1 rfl ?_
  refine T_iload (pc := 2196) C dL_law_2196 6 rfl ?_
  refine T_iconst (pc := 2198) C dL_law_2198 ?_
  refine T_iadd (pc := 2199) C dL_law_2199 ?_
  refine T_sld sx (pc := 2200) C hsl g2 dL_law_2200 ?_
  refine T_lmi (pc := 2201) C [vi (scv xs (i + 1)), vi (scv xs (i + 2))] [] (fun o h9 hw => ct_X13_fewestBoardings N v3.1.2.1 (scv xs (i + 1)) (scv xs (i + 2)) (scv_rng _ _) (scv_rng _ _) hw o h9) kq_62 cm_X13_fewestBoardings rcm rfl rfl (Nat.le_of_ble_eq_true rfl) ⟨⟨by decide, by decide⟩, by show _ + 0 ≤ room_1.cells; have := rmC1; omega, by show _ + 0 ≤ room_1.slots; have := rmS1; omega⟩ (a' := a + 2) (b' := bb + 12) ⟨rfl, rfl⟩ dL_law_2201 (fun v4 hv4 => ?_)
  refine T_istore (pc := 2204) (L' := [(7, vi v4.2), (6, vi v3.2), (0, .ref sc), (1, .ref (adc 0)), (2, .ref (adm 0)), (3, .ref (adm 11)), (4, .ref (adm 12)), (5, vi i)]) C dL_law_2204 (Nat.le_of_ble_eq_true rfl) rfl ?_
  refine T_aload_n (pc := 2206) C dL_law_2206 rfl 4 rfl ?_
  refine T_lmp (pc := 2207) C [] [] (fun o h9 hw => ct_X13_thrown (v3.1.1, v4.1, v3.1.2.2).2.1 hw o h9) kq_2 cm_X13_thrown rcm rfl rfl (Nat.le_of_ble_eq_true rfl) ⟨⟨by decide, by decide⟩, by show _ + 0 ≤ room_1.cells; have := rmC1; omega, by show _ + 0 ≤ room_1.slots; have := rmS1; omega⟩ (a' := a + 2) (b' := bb + 12) ⟨rfl, rfl⟩ dL_law_2207 (fun v5 hv5 => ?_)
  refine T_iload (pc := 2210) C dL_law_2210 1 rfl ?_
  refine T_icmp_eq (pc := 2212) C 2217 dL_law_2212 rfl hv5.1 hv3 (fun c6 => ?_) (fun c6 => ?_)
  · refine T_iload (pc := 2217) C dL_law_2217 1 rfl ?_
    refine T_if_ne (pc := 2219) C 2234 dL_law_2219 rfl hv3 (fun c7 => ?_) (fun c7 => ?_)
    · refine T_goto (pc := 2234) C 3728 dL_law_2234 rfl ?_
      refine T_iinc (pc := 3728) (L' := [(5, vi (i + 5)), (7, vi v4.2), (6, vi v3.2), (0, .ref sc), (1, .ref (adc 0)), (2, .ref (adm 0)), (3, .ref (adm 11)), (4, .ref (adm 12))]) C dL_law_3728 (Nat.le_of_ble_eq_true rfl) 7 rfl rfl ?_
      refine T_goto (pc := 3731) C 28 dL_law_3731 rfl ?_
      refine T_sub (L' := [(0, .ref sc), (1, .ref (adc 0)), (2, .ref (adm 0)), (3, .ref (adm 11)), (4, .ref (adm 12)), (5, vi (i + 5))]) [3, 4, 5, 6, 7, 0] rfl ?_
      exact ih (v3.1.1, v4.1, v3.1.2.2) (i + 5) _ _ (by unfold rng; omega) (stp (c := 2) ha (by decide)) (stp (c := 12) hb (by decide))
    · refine T_aload_n (pc := 2222) C dL_law_2222 rfl 5 rfl ?_
      refine T_iconst (pc := 2223) C dL_law_2223 ?_
      refine T_lald (pc := 2224) C dL_law_2224 (fun o8 => ?_)
      refine T_iload (pc := 2225) C dL_law_2225 0 rfl ?_
      refine T_i2l (pc := 2227) C hv4.1 dL_law_2227 ?_
      refine T_lcmp (pc := 2228) C o8 hv4.1 dL_law_2228 ?_
      refine T_if_eq (pc := 2229) C 2234 dL_law_2229 rfl (lcm_rng _ _) (fun c9 => ?_) (fun c9 => ?_)
      · refine T_goto (pc := 2234) C 3728 dL_law_2234 rfl ?_
        refine T_iinc (pc := 3728) (L' := [(5, vi (i + 5)), (7, vi v4.2), (6, vi v3.2), (0, .ref sc), (1, .ref (adc 0)), (2, .ref (adm 0)), (3, .ref (adm 11)), (4, .ref (adm 12))]) C dL_law_3728 (Nat.le_of_ble_eq_true rfl) 7 rfl rfl ?_
        refine T_goto (pc := 3731) C 28 dL_law_3731 rfl ?_
        refine T_sub (L' := [(0, .ref sc), (1, .ref (adc 0)), (2, .ref (adm 0)), (3, .ref (adm 11)), (4, .ref (adm 12)), (5, vi (i + 5))]) [3, 4, 5, 6, 7, 0] rfl ?_
        exact ih (v3.1.1, v4.1, v3.1.2.2) (i + 5) _ _ (by unfold rng; omega) (stp (c := 2) ha (by decide)) (stp (c := 12) hb (by decide))
      · refine T_iconst (pc := 2232) C dL_law_2232 ?_
        exact T_none
  · refine T_iconst (pc := 2215) C dL_law_2215 ?_
    exact T_none
noncomputable def f_law_31 (sq : Nat) (xs : Nat → Int32) (N : Nat) (rec : SL → Int → Option Unit) (σ : SL) (i : Int) : Option Unit :=
  if 0 ≤ (i + 1) ∧ (i + 1) < (sq : Int) then if 0 ≤ (i + 2) ∧ (i + 2) < (sq : Int) then (f_L_fewestBoardingsByTable N σ (scv xs (i + 1)) (scv xs (i + 2))).bind fun v3 => (f_X13_fewestBoardingsByTable N v3.1.2.1 (scv xs (i + 1)) (scv xs (i + 2))).bind fun v4 => (f_X13_thrown (v3.1.1, v4.1, v3.1.2.2).2.1).bind fun v5 => (if v5 = v3.2 then (if v3.2 = 0 then (if (lcm ((v3.1.1, v4.1, v3.1.2.2).2.2.1) v4.2) = 0 then rec (v3.1.1, v4.1, v3.1.2.2) (i + 5) else none) else rec (v3.1.1, v4.1, v3.1.2.2) (i + 5)) else none) else none else none
theorem lc_31 {X : vjX} {A : Nat → Prop} {Q : State → Prop} {cy : Nat → ClassId} {adc adm : Nat → Nat} {E : Nat → Nat → Nat} {G : va_G} {Z : vZ} {sa : Nat → Nat} {sc sq : Nat} {xs : Nat → Int32} (zk : Zk Z E) (zy : Zy Z E sa) (zs : ZS Z E) (zE : ZE Z) (zp : ZP Z) (zd : ZD Z E) (hst : X.2.1.stackTraces = false) (hZ : Zx Z X (YL cy adc adm E G A 9 Q)) (sx : SX X A sc sq xs) (hL : sq ≤ 2560) (C : Cx X (YL cy adc adm E G A 9 Q) cL_law RL (some .boolean) room_1 (tyL cy)) (N : Nat) (n : Nat) (rec : SL → Int → Option Unit) (ih : ∀ (σ : SL) (i : Int) (a bb : Nat), rng i → a + n * 1000 ≤ 600000 → bb + n * 13000 ≤ 7200000 → T X (YL cy adc adm E G A 9 Q) (fun (_ : Unit) => ∀ (q : SL) (a bb : Nat), a ≤ 600000 → bb ≤ 7200000 → J X (YL cy adc adm E G A 9 Q) a bb 3734 [] [] q) a bb 28 [(0, .ref sc), (1, .ref (adc 0)), (2, .ref (adm 0)), (3, .ref (adm 11)), (4, .ref (adm 12)), (5, vi i)] [] σ (rec σ i)) (σ : SL) (i : Int) (a bb : Nat) (hi : rng i) (hi0 : 0 ≤ i ∧ i < (sq : Int)) (ha : a + (n + 1) * 1000 ≤ 600000) (hb : bb + (n + 1) * 13000 ≤ 7200000) : T X (YL cy adc adm E G A 9 Q) (fun (_ : Unit) => ∀ (q : SL) (a bb : Nat), a ≤ 600000 → bb ≤ 7200000 → J X (YL cy adc adm E G A 9 Q) a bb 3734 [] [] q) a bb 2237 [(0, .ref sc), (1, .ref (adc 0)), (2, .ref (adm 0)), (3, .ref (adm 11)), (4, .ref (adm 12)), (5, vi i)] [] σ (f_law_31 sq xs N rec σ i) := by
  have hsl : sq ≤ 2147483647 := by omega
  have hsq : rng (sq : Int) := by unfold rng; omega
  unfold f_law_31
  refine T_aload_n (pc := 2237) C dL_law_2237 rfl 1 rfl ?_
  refine T_aload_n (pc := 2238) C dL_law_2238 rfl 0 rfl ?_
  refine T_iload (pc := 2239) C dL_law_2239 5 rfl ?_
  refine T_iconst (pc := 2241) C dL_law_2241 ?_
  refine T_iadd (pc := 2242) C dL_law_2242 ?_
  refine T_guard (fun g1 => ?_)
  refine T_sld sx (pc := 2243) C hsl g1 dL_law_2243 ?_
  refine T_aload_n (pc := 2244) C dL_law_2244 rfl 0 rfl ?_
  refine T_iload (pc := 2245) C dL_law_2245 5 rfl ?_
  refine T_iconst (pc := 2247) C dL_law_2247 ?_
  refine T_iadd (pc := 2248) C dL_law_2248 ?_
  refine T_guard (fun g2 => ?_)
  refine T_sld sx (pc := 2249) C hsl g2 dL_law_2249 ?_
  refine T_aload_n (pc := 2250) C dL_law_2250 rfl 3 rfl ?_
  refine T_lh (pc := 2251) zk.1 hZ C [.ref (adc 0), vi (scv xs (i + 1)), vi (scv xs (i + 2)), .ref (adm 11)] [] (fun o h9 hw => ct_L_fewestBoardingsByTable zk zy zs zE hst N σ (scv xs (i + 1)) (scv xs (i + 2)) (scv_rng _ _) (scv_rng _ _) hw o h9) kq_63 cm_L_fewestBoardingsByTable rfl rfl (Nat.le_of_ble_eq_true rfl) ⟨⟨by decide, by decide⟩, by show _ + 2 ≤ room_1.cells; have := rmC1; omega, by show _ + 12 ≤ room_1.slots; have := rmS1; omega⟩ (a' := a + 2) (b' := bb + 12) ⟨rfl, rfl⟩ dL_law_2251 (fun v3 hv3 => ?_)
  refine T_istore (pc := 2254) (L' := [(6, vi v3.2), (0, .ref sc), (1, .ref (adc 0)), (2, .ref (adm 0)), (3, .ref (adm 11)), (4, .ref (adm 12)), (5, vi i)]) C dL_law_2254 (Nat.le_of_ble_eq_true rfl) rfl ?_
  refine T_aload_n (pc := 2256) C dL_law_2256 rfl 3 rfl ?_
  refine T_aload_n (pc := 2257) C dL_law_2257 rfl 1 rfl ?_
  refine T_iload (pc := 2258) C dL_law_2258 6 rfl ?_
  refine T_iconst (pc := 2260) C dL_law_2260 ?_
  refine T_iadd (pc := 2261) C dL_law_2261 ?_
  refine T_sld sx (pc := 2262) C hsl g1 dL_law_2262 ?_
  refine T_aload_n (pc := 2263) C dL_law_2263 rfl 1 rfl ?_
  refine T_iload (pc := 2264) C dL_law_2264 6 rfl ?_
  refine T_iconst (pc := 2266) C dL_law_2266 ?_
  refine T_iadd (pc := 2267) C dL_law_2267 ?_
  refine T_sld sx (pc := 2268) C hsl g2 dL_law_2268 ?_
  refine T_lmi (pc := 2269) C [vi (scv xs (i + 1)), vi (scv xs (i + 2))] [] (fun o h9 hw => ct_X13_fewestBoardingsByTable N v3.1.2.1 (scv xs (i + 1)) (scv xs (i + 2)) (scv_rng _ _) (scv_rng _ _) hw o h9) kq_64 cm_X13_fewestBoardingsByTable rcm rfl rfl (Nat.le_of_ble_eq_true rfl) ⟨⟨by decide, by decide⟩, by show _ + 0 ≤ room_1.cells; have := rmC1; omega, by show _ + 0 ≤ room_1.slots; have := rmS1; omega⟩ (a' := a + 2) (b' := bb + 12) ⟨rfl, rfl⟩ dL_law_2269 (fun v4 hv4 => ?_)
  refine T_istore (pc := 2272) (L' := [(7, vi v4.2), (6, vi v3.2), (0, .ref sc), (1, .ref (adc 0)), (2, .ref (adm 0)), (3, .ref (adm 11)), (4, .ref (adm 12)), (5, vi i)]) C dL_law_2272 (Nat.le_of_ble_eq_true rfl) rfl ?_
  refine T_aload_n (pc := 2274) C dL_law_2274 rfl 4 rfl ?_
  refine T_lmp (pc := 2275) C [] [] (fun o h9 hw => ct_X13_thrown (v3.1.1, v4.1, v3.1.2.2).2.1 hw o h9) kq_2 cm_X13_thrown rcm rfl rfl (Nat.le_of_ble_eq_true rfl) ⟨⟨by decide, by decide⟩, by show _ + 0 ≤ room_1.cells; have := rmC1; omega, by show _ + 0 ≤ room_1.slots; have := rmS1; omega⟩ (a' := a + 2) (b' := bb + 12) ⟨rfl, rfl⟩ dL_law_2275 (fun v5 hv5 => ?_)
  refine T_iload (pc := 2278) C dL_law_2278 1 rfl ?_
  refine T_icmp_eq (pc := 2280) C 2285 dL_law_2280 rfl hv5.1 hv3 (fun c6 => ?_) (fun c6 => ?_)
  · refine T_iload (pc := 2285) C dL_law_2285 1 rfl ?_
    refine T_if_ne (pc := 2287) C 2302 dL_law_2287 rfl hv3 (fun c7 => ?_) (fun c7 => ?_)
    · refine T_goto (pc := 2302) C 3728 dL_law_2302 rfl ?_
      refine T_iinc (pc := 3728) (L' := [(5, vi (i + 5)), (7, vi v4.2), (6, vi v3.2), (0, .ref sc), (1, .ref (adc 0)), (2, .ref (adm 0)), (3, .ref (adm 11)), (4, .ref (adm 12))]) C dL_law_3728 (Nat.le_of_ble_eq_true rfl) 7 rfl rfl ?_
      refine T_goto (pc := 3731) C 28 dL_law_3731 rfl ?_
      refine T_sub (L' := [(0, .ref sc), (1, .ref (adc 0)), (2, .ref (adm 0)), (3, .ref (adm 11)), (4, .ref (adm 12)), (5, vi (i + 5))]) [3, 4, 5, 6, 7, 0] rfl ?_
      exact ih (v3.1.1, v4.1, v3.1.2.2) (i + 5) _ _ (by unfold rng; omega) (stp (c := 2) ha (by decide)) (stp (c := 12) hb (by decide))
    · refine T_aload_n (pc := 2290) C dL_law_2290 rfl 5 rfl ?_
      refine T_iconst (pc := 2291) C dL_law_2291 ?_
      refine T_lald (pc := 2292) C dL_law_2292 (fun o8 => ?_)
      refine T_iload (pc := 2293) C dL_law_2293 0 rfl ?_
      refine T_i2l (pc := 2295) C hv4.1 dL_law_2295 ?_
      refine T_lcmp (pc := 2296) C o8 hv4.1 dL_law_2296 ?_
      refine T_if_eq (pc := 2297) C 2302 dL_law_2297 rfl (lcm_rng _ _) (fun c9 => ?_) (fun c9 => ?_)
      · refine T_goto (pc := 2302) C 3728 dL_law_2302 rfl ?_
        refine T_iinc (pc := 3728) (L' := [(5, vi (i + 5)), (7, vi v4.2), (6, vi v3.2), (0, .ref sc), (1, .ref (adc 0)), (2, .ref (adm 0)), (3, .ref (adm 11)), (4, .ref (adm 12))]) C dL_law_3728 (Nat.le_of_ble_eq_true rfl) 7 rfl rfl ?_
        refine T_goto (pc := 3731) C 28 dL_law_3731 rfl ?_
        refine T_sub (L' := [(0, .ref sc), (1, .ref (adc 0)), (2, .ref (adm 0)), (3, .ref (adm 11)), (4, .ref (adm 12)), (5, vi (i + 5))]) [3, 4, 5, 6, 7, 0] rfl ?_
        exact ih (v3.1.1, v4.1, v3.1.2.2) (i + 5) _ _ (by unfold rng; omega) (stp (c := 2) ha (by decide)) (stp (c := 12) hb (by decide))
      · refine T_iconst (pc := 2300) C dL_law_2300 ?_
        exact T_none
  · refine T_iconst (pc := 2283) C dL_law_2283 ?_
    exact T_none
