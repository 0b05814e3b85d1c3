/-! what holds of the static things, and that it holds at the start -/
def isDC : Cond → Bool
  | .declares _ => true
  | .castable _ _ => true
  | _ => false
theorem nwL_dc : ∀ w ∈ nwL, isDC w = true := by decide +kernel
theorem nw_warm {w : Cond} (h : isDC w = true) {s U : State} (hW : s.WarmedH U.vm) (hZ : va_Nw w s) : va_Nw w U := by
  cases w with
  | declares x => exact va_Nw.warmD hW hZ
  | castable C T => exact va_Nw.warmC hW hZ
  | _ => cases h
def isMN : Cond → Bool
  | .methodLinkNest _ _ _ _ => true
  | _ => false
theorem nkL_mn : ∀ w ∈ nkL, isMN w = true := by decide +kernel
theorem nk_warm {w : Cond} (h : isMN w = true) {s U : State} (hW : s.WarmedH U.vm) (hZ : va_Nw w s) : va_Nw w U := by
  cases w with
  | methodLinkNest a i x q => exact va_Nw.warmM hW hZ
  | _ => cases h
def zF (E : Nat → Nat → Nat) : vZ := fun A U H => va_En "RingTransit$Fault" "LRingTransit$Fault;" nmF fdF (E 0) A U H
def zX : vZ := fun A U H => vx_Zq Bundle.tN "UNASSIGNED_STACK" Bundle.steD A U H ∧ vx_Zq Bundle.tN "SUPPRESSED_SENTINEL" Bundle.listD A U H
def zR (sa : Nat → Nat) : vZ := fun A U H => ∀ q ∈ strL, vk_R RX12 q.1 q.2 (sa q.1) U
def zC (E : Nat → Nat → Nat) : vZ := fun A U H => va_En "RingTransit$Command" "LRingTransit$Command;" nmC fdC (E 1) A U H
def zT (E : Nat → Nat → Nat) : vZ := fun A U H => (va_Z "RingTransit$1" "$SwitchMap$RingTransit$Fault" "[I" (.ref (E 2 0)) A U H ∧ va_T .int (E 2 0) 6 (fun j => vi (swfL.getD j 0)) A U H) ∧ (va_Z "RingTransit$1" "$SwitchMap$RingTransit$Command" "[I" (.ref (E 2 1)) A U H ∧ va_T .int (E 2 1) 14 (fun j => vi (swcL.getD j 0)) A U H)
def zN : vZ := fun A U H => ∀ w ∈ nwL, va_Nw w U
def zS (E : Nat → Nat → Nat) : vZ := fun A U H => vk_S 14 fLen fByt (E 4) (E 5) A U H ∧ va_Z "java/lang/String" "COMPACT_STRINGS" "Z" (vi 1) A U H ∧ va_Zq "jdk/internal/util/Preconditions" "SIOOBE_FORMATTER" "Ljava/util/function/BiFunction;" A U H ∧ (va_Z "RingTransit$Script" "COMMANDS" "[LRingTransit$Command;" (.ref (E 2 2)) A U H ∧ va_T (.object "RingTransit$Command") (E 2 2) 14 (fun j => .ref (E 1 j)) A U H) ∧ ∀ i, i < 14 → va_OF "RingTransit$Command" "form" "Ljava/lang/String;" (.ref (E 4 i)) (E 1 i) A U H
def zE : vZ := fun A U H => ∀ q ∈ ncL, va_Nc (xn q.1) (xn q.2) U
def zP : vZ := fun A U H => va_Nw (Cond.selects RJ4 yJ5_ensureCapacityInternal_d00df yJ5_ensureCapacityInternal_d00df) U ∧ va_Nw (Cond.selects RJ4 yJ5_newCapacity_0f7a4 yJ5_newCapacity_0f7a4) U
def zD (E : Nat → Nat → Nat) : vZ := fun A U H => (va_Z "java/lang/Integer" "DigitOnes" "[B" (.ref (E 6 0)) A U H ∧ va_T .byte (E 6 0) 100 (fun j => vi (48 + ((j % 10 : Nat) : Int))) A U H) ∧ (va_Z "java/lang/Integer" "DigitTens" "[B" (.ref (E 6 1)) A U H ∧ va_T .byte (E 6 1) 100 (fun j => vi (48 + ((j / 10 : Nat) : Int))) A U H)
def zM : vZ := fun A U H => (∀ C ∈ aoL, va_AO C U) ∧ ∀ w ∈ nkL, va_Nw w U
theorem zF_ok {E : Nat → Nat → Nat} : Zok (zF E) := ⟨fun A u U H hW h => va_En.moved hW.alike h, fun A U H H1 h hq => va_En.kept h hq, fun A B U H h hAB => va_En.narrow h hAB⟩
theorem zX_ok : Zok zX := ⟨fun A u U H hW h => ⟨vx_Zq.moved hW.alike h.1, vx_Zq.moved hW.alike h.2⟩, fun A U H H1 h hq => ⟨vx_Zq.kept h.1 hq, vx_Zq.kept h.2 hq⟩, fun A B U H h hAB => ⟨vx_Zq.narrow h.1 hAB, vx_Zq.narrow h.2 hAB⟩⟩
theorem zR_ok {sa : Nat → Nat} : Zok (zR sa) := ⟨fun A u U H hW h q hq => vk_R.warm hW (h q hq), fun A U H H1 h hq => h, fun A B U H h hAB => h⟩
theorem zC_ok {E : Nat → Nat → Nat} : Zok (zC E) := ⟨fun A u U H hW h => va_En.moved hW.alike h, fun A U H H1 h hq => va_En.kept h hq, fun A B U H h hAB => va_En.narrow h hAB⟩
theorem zT_ok {E : Nat → Nat → Nat} : Zok (zT E) := ⟨fun A u U H hW h => ⟨⟨va_Z.moved hW.alike h.1.1, va_T.moved hW.alike h.1.2⟩, va_Z.moved hW.alike h.2.1, va_T.moved hW.alike h.2.2⟩, fun A U H H1 h hq => ⟨⟨va_Z.kept h.1.1 hq, va_T.kept h.1.2 hq⟩, va_Z.kept h.2.1 hq, va_T.kept h.2.2 hq⟩, fun A B U H h hAB => ⟨⟨va_Z.narrow h.1.1 hAB, va_T.narrow h.1.2 hAB⟩, va_Z.narrow h.2.1 hAB, va_T.narrow h.2.2 hAB⟩⟩
theorem zN_ok : Zok zN := ⟨fun A u U H hW h w hw => nw_warm (nwL_dc w hw) hW (h w hw), fun A U H H1 h hq => h, fun A B U H h hAB => h⟩
theorem zS_ok {E : Nat → Nat → Nat} : Zok (zS E) := ⟨fun A u U H hW h => ⟨vk_S.moved hW.alike h.1, va_Z.moved hW.alike h.2.1, va_Zq.moved hW.alike h.2.2.1, ⟨va_Z.moved hW.alike h.2.2.2.1.1, va_T.moved hW.alike h.2.2.2.1.2⟩, fun i hi => va_OF.moved hW.alike (h.2.2.2.2 i hi)⟩, fun A U H H1 h hq => ⟨vk_S.kept h.1 hq, va_Z.kept h.2.1 hq, va_Zq.kept h.2.2.1 hq, ⟨va_Z.kept h.2.2.2.1.1 hq, va_T.kept h.2.2.2.1.2 hq⟩, fun i hi => va_OF.kept (h.2.2.2.2 i hi) hq⟩, fun A B U H h hAB => ⟨vk_S.narrow h.1 hAB, va_Z.narrow h.2.1 hAB, va_Zq.narrow h.2.2.1 hAB, ⟨va_Z.narrow h.2.2.2.1.1 hAB, va_T.narrow h.2.2.2.1.2 hAB⟩, fun i hi => va_OF.narrow (h.2.2.2.2 i hi) hAB⟩⟩
theorem zE_ok : Zok zE := ⟨fun A u U H hW h q hq => va_Nc.moved hW.alike (h q hq), fun A U H H1 h hq => h, fun A B U H h hAB => h⟩
theorem zP_ok : Zok zP := ⟨fun A u U H hW h => ⟨word_at hW (Or.inl rfl) h.1, word_at hW (Or.inl rfl) h.2⟩, fun A U H H1 h hq => h, fun A B U H h hAB => h⟩
theorem zD_ok {E : Nat → Nat → Nat} : Zok (zD E) := ⟨fun A u U H hW h => ⟨⟨va_Z.moved hW.alike h.1.1, va_T.moved hW.alike h.1.2⟩, va_Z.moved hW.alike h.2.1, va_T.moved hW.alike h.2.2⟩, fun A U H H1 h hq => ⟨⟨va_Z.kept h.1.1 hq, va_T.kept h.1.2 hq⟩, va_Z.kept h.2.1 hq, va_T.kept h.2.2 hq⟩, fun A B U H h hAB => ⟨⟨va_Z.narrow h.1.1 hAB, va_T.narrow h.1.2 hAB⟩, va_Z.narrow h.2.1 hAB, va_T.narrow h.2.2 hAB⟩⟩
theorem zM_ok : Zok zM := ⟨fun A u U H hW h => ⟨fun C hC => va_AO.moved hW.alike (h.1 C hC), fun w hw => nk_warm (nkL_mn w hw) hW (h.2 w hw)⟩, fun A U H H1 h hq => h, fun A B U H h hAB => h⟩
def zand (Z1 Z2 : vZ) : vZ := fun A U H => Z1 A U H ∧ Z2 A U H
theorem zand_ok {Z1 Z2 : vZ} (h1 : Zok Z1) (h2 : Zok Z2) : Zok (zand Z1 Z2) := ⟨fun A u U H hW h => ⟨h1.1 A u U H hW h.1, h2.1 A u U H hW h.2⟩, fun A U H H1 h hq => ⟨h1.2.1 A U H H1 h.1 hq, h2.2.1 A U H H1 h.2 hq⟩, fun A B U H h hAB => ⟨h1.2.2 A B U H h.1 hAB, h2.2.2 A B U H h.2 hAB⟩⟩
def ZZ (E : Nat → Nat → Nat) (sa : Nat → Nat) : vZ := zand (zF E) (zand zX (zand (zR sa) (zand (zC E) (zand (zT E) (zand zN (zand (zS E) (zand zE (zand zP (zand (zD E) zM)))))))))
section ZZS
variable {E : Nat → Nat → Nat} {sa : Nat → Nat}
theorem ZZ_ok : Zok (ZZ E sa) := zand_ok zF_ok (zand_ok zX_ok (zand_ok zR_ok (zand_ok zC_ok (zand_ok zT_ok (zand_ok zN_ok (zand_ok zS_ok (zand_ok zE_ok (zand_ok zP_ok (zand_ok zD_ok zM_ok)))))))))
theorem ZZ_k : Zk (ZZ E sa) E := ⟨ZZ_ok, fun _ _ _ h => h.1⟩
theorem ZZ_c : ZC (ZZ E sa) E := fun _ _ _ h => h.2.2.2.1
theorem ZZ_y : Zy (ZZ E sa) E sa := ⟨fun _ _ _ h => h.2.1, fun _ _ _ h => h.2.2.1, ZZ_c, fun _ _ _ h => h.2.2.2.2.1, fun _ _ _ h => h.2.2.2.2.2.1⟩
theorem ZZ_s : ZS (ZZ E sa) E := fun _ _ _ h => h.2.2.2.2.2.2.1
theorem ZZ_e : ZE (ZZ E sa) := fun _ _ _ h => h.2.2.2.2.2.2.2.1
theorem ZZ_p : ZP (ZZ E sa) := fun _ _ _ h => h.2.2.2.2.2.2.2.2.1
theorem ZZ_d : ZD (ZZ E sa) E := fun _ _ _ h => h.2.2.2.2.2.2.2.2.2.1
theorem ZZ_m : ZM (ZZ E sa) := fun _ _ _ h => h.2.2.2.2.2.2.2.2.2.2
end ZZS
