/-! the start: every such thing out of the premises -/
abbrev narC : Cond := Cond.and given_1 narrow_1
/-- the piece of a condition at a place (bits from the root, last bit first, a 1 above them) -/
def pk : Nat → Nat → Cond → Cond
  | 0, _, c => c
  | f + 1, n, c => match c with
    | .and a b => bif Nat.beq n 1 then .and a b else pk f (n / 2) (bif Nat.beq (n % 2) 0 then a else b)
    | c => c
theorem pk_bef {args : Array Value} {s : State} : ∀ (f n : Nat) (c : Cond), c.before args s = true → (pk f n c).before args s = true
  | 0, _, _, h => h
  | f + 1, n, c, h => by
    cases c with
    | and a b =>
      have h2 := h
      rw [Cond.before_and, Bool.and_eq_true] at h2
      simp only [pk]
      cases Nat.beq n 1 with
      | true => exact h
      | false =>
        cases Nat.beq (n % 2) 0 with
        | true => exact pk_bef f _ _ h2.1
        | false => exact pk_bef f _ _ h2.2
    | _ => exact h
def chkN : List Cond → List Nat → Bool
  | [], _ => true
  | w :: ws, p :: ps => decide (pk 14 p narC = w) && chkN ws ps
  | _ :: _, [] => false
theorem nr_all {args : Array Value} {s : State} : ∀ {ws : List Cond} {ps : List Nat}, chkN ws ps = true → narC.before args s = true → ∀ w ∈ ws, w.before args s = true
  | [], _, _, _ => fun w hw => by cases hw
  | w :: ws, [], h, _ => by simp [chkN] at h
  | w :: ws, p :: ps, h, hn => fun x hx => by
    simp only [chkN, Bool.and_eq_true, decide_eq_true_eq] at h
    rcases List.mem_cons.mp hx with rfl | hx
    · rw [← h.1]; exact pk_bef 14 p narC hn
    · exact nr_all h.2 hn x hx
def tbAt : Nat → List Cond
  | 1 => tables_1_1 | 2 => tables_1_2 | 3 => tables_1_3 | 4 => tables_1_4 | 5 => tables_1_5 | 6 => tables_1_6 | 7 => tables_1_7 | 8 => tables_1_8 | 9 => tables_1_9 | 10 => tables_1_10 | 11 => tables_1_11 | _ => []
theorem tbAt_mem {w : Cond} : ∀ k : Nat, w ∈ tbAt k → w ∈ lw_tbl
  | 0, h => by cases h
  | 1, h => tb_1 h | 2, h => tb_2 h | 3, h => tb_3 h | 4, h => tb_4 h | 5, h => tb_5 h | 6, h => tb_6 h | 7, h => tb_7 h | 8, h => tb_8 h | 9, h => tb_9 h | 10, h => tb_10 h | 11, h => tb_11 h
  | _ + 12, h => by cases h
def chkT : List Cond → List (Nat × Nat) → Bool
  | [], _ => true
  | w :: ws, p :: ps => decide ((tbAt p.1)[p.2]? = some w) && chkT ws ps
  | _ :: _, [] => false
theorem tb_all : ∀ {ws : List Cond} {ps : List (Nat × Nat)}, chkT ws ps = true → ∀ w ∈ ws, w ∈ lw_tbl
  | [], _, _ => fun w hw => by cases hw
  | w :: ws, [], h => by simp [chkT] at h
  | w :: ws, p :: ps, h => fun x hx => by
    simp only [chkT, Bool.and_eq_true, decide_eq_true_eq] at h
    rcases List.mem_cons.mp hx with rfl | hx
    · exact tbAt_mem p.1 (List.mem_of_getElem? h.1)
    · exact tb_all h.2 x hx
def stL : List (String × String × String × FieldType × Nat) := [("RingTransit$1", "$SwitchMap$RingTransit$Fault", "[I", .int, 6), ("RingTransit$1", "$SwitchMap$RingTransit$Command", "[I", .int, 14), ("RingTransit$Script", "COMMANDS", "[LRingTransit$Command;", .object "RingTransit$Command", 14), ("java/lang/Integer", "DigitOnes", "[B", .byte, 100), ("java/lang/Integer", "DigitTens", "[B", .byte, 100)]
def fmI : List Nat := [70, 76, 79, 82, 85, 88, 91, 94, 97, 100, 103, 106, 109, 112]
def fmT (i : Nat) : Term := .string "RingTransit$Command" (fmI.getD i 0)
theorem t_Fl : ∀ w ∈ (((List.range 6).map fun i => Cond.laysStatic "RingTransit$Fault" (nmF.getD i "") "LRingTransit$Fault;") : List Cond), w ∈ lw_tbl := tb_all (ps := [(3, 189), (4, 140), (3, 187), (3, 191), (4, 158), (4, 204)]) (by decide +kernel)
theorem t_Cl : ∀ w ∈ (((List.range 14).map fun i => Cond.laysStatic "RingTransit$Command" (nmC.getD i "") "LRingTransit$Command;") : List Cond), w ∈ lw_tbl := tb_all (ps := [(11, 74), (11, 75), (11, 76), (11, 77), (11, 78), (11, 79), (2, 76), (11, 80), (11, 81), (11, 82), (11, 83), (11, 84), (11, 85), (11, 86)]) (by decide +kernel)
theorem t_R : ∀ w ∈ ((strL.map fun q => Cond.stringRef RX12 q.1 q.2) : List Cond), w ∈ lw_tbl := tb_all (ps := [(4, 9), (4, 44), (4, 60), (4, 76), (4, 92), (5, 57), (5, 123), (5, 137), (5, 206), (6, 82), (6, 128), (6, 141), (7, 202), (7, 220), (7, 221), (8, 35), (8, 63), (8, 71), (8, 79), (8, 87), (8, 99)]) (by decide +kernel)
theorem t_N : ∀ w ∈ (nwL : List Cond), w ∈ lw_tbl := tb_all (ps := [(3, 207), (3, 209), (3, 211), (3, 205), (4, 37), (4, 53), (4, 69), (4, 85), (6, 121)]) (by decide +kernel)
theorem t_M1 : ∀ w ∈ ((aoL.map fun C => Cond.arrayOver (.object C)) : List Cond), w ∈ lw_tbl := tb_all (ps := [(1, 54), (1, 62), (1, 232), (2, 74)]) (by decide +kernel)
theorem t_M2 : ∀ w ∈ (nkL : List Cond), w ∈ lw_tbl := tb_all (ps := [(1, 64), (1, 132), (2, 7), (2, 27), (2, 41)]) (by decide +kernel)
theorem t_S1 : ∀ w ∈ ((stL.map fun q => Cond.laysStatic q.1 q.2.1 q.2.2.1) : List Cond), w ∈ lw_tbl := tb_all (ps := [(3, 196), (8, 49), (8, 2), (7, 56), (7, 58)]) (by decide +kernel)
theorem t_S2 : ∀ w ∈ ((stL.map fun q => Cond.initialized q.1) : List Cond), w ∈ lw_tbl := tb_all (ps := [(1, 19), (1, 19), (1, 10), (1, 38), (1, 38)]) (by decide +kernel)
theorem t_in : ∀ w ∈ ([Cond.initialized "RingTransit$Fault", Cond.initialized "RingTransit$Command", Cond.initialized "java/lang/String", Cond.initialized "jdk/internal/util/Preconditions", Cond.initialized Bundle.tN] : List Cond), w ∈ lw_tbl := tb_all (ps := [(1, 18), (1, 12), (1, 15), (1, 35), (1, 20)]) (by decide +kernel)
theorem t_ls : ∀ w ∈ ([Cond.laysStatic "java/lang/String" "COMPACT_STRINGS" "Z", Cond.laysStatic "jdk/internal/util/Preconditions" "SIOOBE_FORMATTER" "Ljava/util/function/BiFunction;", Cond.laysStatic Bundle.tN "UNASSIGNED_STACK" Bundle.steD, Cond.laysStatic Bundle.tN "SUPPRESSED_SENTINEL" Bundle.listD] : List Cond), w ∈ lw_tbl := tb_all (ps := [(2, 110), (6, 226), (3, 230), (3, 232)]) (by decide +kernel)
theorem t_pr : ∀ w ∈ ([Cond.selects RJ4 ⟨"java/lang/AbstractStringBuilder", "isLatin1", "()Z"⟩ ⟨"java/lang/AbstractStringBuilder", "isLatin1", "()Z"⟩, Cond.privateMethod yJ5_ensureCapacityInternal_d00df, Cond.instanceMethod yJ5_ensureCapacityInternal_d00df, Cond.privateMethod yJ5_newCapacity_0f7a4, Cond.instanceMethod yJ5_newCapacity_0f7a4] : List Cond), w ∈ lw_tbl := tb_all (ps := [(6, 211), (6, 180), (6, 181), (6, 184), (6, 185)]) (by decide +kernel)
section BG
variable {args : Array Value} {s : State}
theorem n_Fx (hn : narC.before args s = true) : ∀ w ∈ ((List.range 6).map fun i => Cond.exactly (Term.static "RingTransit$Fault" (nmF.getD i "") "LRingTransit$Fault;") "RingTransit$Fault"), w.before args s = true := nr_all (ps := [2817, 5697, 2305, 5249, 5953, 7873]) (by decide +kernel) hn
theorem n_Ff (hn : narC.before args s = true) : ∀ w ∈ ((List.range 6).map fun i => Cond.eq (.field (Term.static "RingTransit$Fault" (nmF.getD i "") "LRingTransit$Fault;") "java/lang/Enum" "ordinal" "I") (.int (([0, 1, 2, 3, 4, 5] : List Int32).getD i 0))), w.before args s = true := nr_all (ps := [5889, 7745, 5377, 7297, 8001, 2497]) (by decide +kernel) hn
theorem n_Fd (hn : narC.before args s = true) : ∀ w ∈ (([(0, 1), (2, 0), (0, 3), (0, 4), (0, 5), (2, 1), (3, 1), (1, 4), (1, 5), (2, 3), (2, 4), (2, 5), (3, 4), (3, 5), (4, 5)] : List (Nat × Nat)).map fun q => Cond.not (.eq (Term.static "RingTransit$Fault" (nmF.getD q.1 "") "LRingTransit$Fault;") (Term.static "RingTransit$Fault" (nmF.getD q.2 "") "LRingTransit$Fault;"))), w.before args s = true := nr_all (ps := [7489, 2177, 7809, 7361, 5057, 5441, 2881, 5825, 6081, 5761, 5313, 7617, 2753, 7105, 8129]) (by decide +kernel) hn
theorem n_Cx (hn : narC.before args s = true) : ∀ w ∈ ((List.range 14).map fun i => Cond.exactly (Term.static "RingTransit$Command" (nmC.getD i "") "LRingTransit$Command;") "RingTransit$Command"), w.before args s = true := nr_all (ps := [5097, 2329, 7833, 5721, 7897, 2361, 7169, 5049, 2297, 5637, 7045, 5829, 7973, 5477]) (by decide +kernel) hn
theorem n_Cf (hn : narC.before args s = true) : ∀ w ∈ ((List.range 14).map fun i => Cond.eq (.field (Term.static "RingTransit$Command" (nmC.getD i "") "LRingTransit$Command;") "java/lang/Enum" "ordinal" "I") (.int (([0, 1, 2, 3, 4, 5, 6, 7, 8, 9, 10, 11, 12, 13] : List Int32).getD i 0))), w.before args s = true := nr_all (ps := [7145, 5401, 2457, 7769, 2521, 5433, 2561, 7097, 5369, 7685, 6021, 7877, 2213, 7525]) (by decide +kernel) hn
theorem n_Cd (hn : narC.before args s = true) : ∀ w ∈ (([(0, 1), (0, 2), (0, 3), (0, 4), (0, 5), (6, 0), (0, 7), (0, 8), (0, 9), (0, 10), (0, 11), (0, 12), (0, 13), (1, 2), (1, 3), (1, 4), (1, 5), (6, 1), (1, 7), (1, 8), (1, 9), (1, 10), (1, 11), (1, 12), (1, 13), (2, 3), (2, 4), (2, 5), (6, 2), (2, 7), (2, 8), (2, 9), (2, 10), (2, 11), (2, 12), (2, 13), (3, 4), (3, 5), (6, 3), (3, 7), (3, 8), (3, 9), (3, 10), (3, 11), (3, 12), (3, 13), (4, 5), (6, 4), (4, 7), (4, 8), (4, 9), (4, 10), (4, 11), (4, 12), (4, 13), (6, 5), (5, 7), (5, 8), (5, 9), (5, 10), (5, 11), (5, 12), (5, 13), (6, 7), (6, 8), (6, 9), (6, 10), (6, 11), (6, 12), (6, 13), (7, 8), (7, 9), (7, 10), (7, 11), (7, 12), (7, 13), (8, 9), (8, 10), (8, 11), (8, 12), (8, 13), (9, 10), (9, 11), (9, 12), (9, 13), (10, 11), (10, 12), (10, 13), (11, 12), (11, 13), (12, 13)] : List (Nat × Nat)).map fun q => Cond.not (.eq (Term.static "RingTransit$Command" (nmC.getD q.1 "") "LRingTransit$Command;") (Term.static "RingTransit$Command" (nmC.getD q.2 "") "LRingTransit$Command;"))), w.before args s = true := nr_all (ps := [5785, 7257, 7385, 7225, 5817, 8169, 2425, 7161, 7301, 5445, 5157, 5029, 7909, 2649, 2777, 2617, 7865, 2841, 5497, 6137, 2693, 7493, 7205, 7077, 2533, 5849, 5689, 2489, 7577, 7545, 8185, 5765, 2885, 2597, 6053, 5605, 7737, 5561, 5465, 2937, 2053, 7813, 5957, 5669, 8101, 7653, 7609, 7641, 6009, 5125, 2437, 8005, 7717, 2149, 5093, 2873, 8057, 7173, 5509, 2245, 2341, 5221, 7141, 8121, 2809, 5381, 2117, 5573, 7333, 5989, 2565, 7557, 5317, 5413, 7269, 6117, 4997, 7365, 7461, 2661, 8165, 2757, 2853, 5733, 2069, 5925, 7781, 5141, 2405, 7189, 2581]) (by decide +kernel) hn
theorem n_Sx (hn : narC.before args s = true) : ∀ w ∈ ((List.range 14).map fun i => Cond.exactly (fmT i) "java/lang/String"), w.before args s = true := nr_all (ps := [4375, 14103, 16023, 14423, 10583, 14167, 15383, 15575, 11735, 10295, 15927, 11063, 11959, 14263]) (by decide +kernel) hn
theorem n_Sc (hn : narC.before args s = true) : ∀ w ∈ ((List.range 14).map fun i => Cond.eq (.field (fmT i) "java/lang/String" "coder" "B") (.int 0)), w.before args s = true := nr_all (ps := [10519, 12055, 4503, 5207, 14679, 12119, 4631, 4823, 15831, 14391, 4407, 15159, 16055, 12215]) (by decide +kernel) hn
theorem n_Sa (hn : narC.before args s = true) : ∀ w ∈ ((List.range 14).map fun i => Cond.arrayOf (.field (fmT i) "java/lang/String" "value" "[B") .byte), w.before args s = true := nr_all (ps := [14615, 16151, 10647, 11351, 5463, 16215, 10775, 10967, 5079, 5175, 10551, 10039, 4535, 16311]) (by decide +kernel) hn
theorem n_Sl (hn : narC.before args s = true) : ∀ w ∈ ((List.range 14).map fun i => Cond.eq (.length (.field (fmT i) "java/lang/String" "value" "[B")) (.int (Int32.ofNat (fLen.getD i 0)))), w.before args s = true := nr_all (ps := [5399, 4247, 14743, 15447, 11607, 4311, 14871, 15063, 11223, 11319, 14647, 14135, 10679, 4215]) (by decide +kernel) hn
theorem n_Se (hn : narC.before args s = true) : ∀ w ∈ ((List.range 14).flatMap fun i => (List.range (fLen.getD i 0)).map fun j => Cond.eq (.elem (.field (fmT i) "java/lang/String" "value" "[B") (.int (Int32.ofNat j))) (.int ((fByt.getD i []).getD j 0))), w.before args s = true := nr_all (ps := [11543, 15639, 4887, 11031, 15127, 10007, 10391, 14487, 5271, 11415, 15511, 4759, 10903, 14999, 5783, 11927, 5527, 11671, 15767, 5015, 11159, 15255, 10135, 14231, 12183, 16279, 4183, 10327, 4695, 10839, 14935, 5719, 11863, 15959, 4439, 15703, 4951, 11095, 15191, 10071, 10455, 14551, 5335, 11479, 5655, 11799, 15895, 5847, 11991, 16087, 4567, 10711, 14807, 5591, 15319, 10199, 14295, 12247, 16343, 4151, 15415, 4663, 10807, 14903, 5687, 11831, 5431, 11575, 15671, 4919, 12087, 16183, 4279, 10423, 14519, 5303, 11447, 15543, 4791, 10935, 15031, 5815, 14775, 5559, 11703, 15799, 5047, 11191, 15287, 10167, 10359, 14455, 5239, 11383, 15479, 4727]) (by decide +kernel) hn
theorem n_Cs (hn : narC.before args s = true) : ∀ w ∈ ((List.range 14).map fun i => Cond.eq (.field (Term.static "RingTransit$Command" (nmC.getD i "") "LRingTransit$Command;") "RingTransit$Command" "form" "Ljava/lang/String;") (fmT i)), w.before args s = true := nr_all (ps := [6121, 7449, 5529, 2393, 5593, 7481, 5633, 6073, 7417, 2309, 8069, 2501, 5285, 2917]) (by decide +kernel) hn
theorem n_Ce (hn : narC.before args s = true) : ∀ w ∈ ((List.range 14).map fun i => Cond.eq (.elem (.static "RingTransit$Script" "COMMANDS" "[LRingTransit$Command;") (.int (Int32.ofNat i))) (Term.static "RingTransit$Command" (nmC.getD i "") "LRingTransit$Command;")), w.before args s = true := nr_all (ps := [2729, 5801, 7849, 2473, 5545, 7593, 5033, 7081, 6057, 8105, 2153, 5225, 7273, 2665]) (by decide +kernel) hn
theorem n_T0 (hn : narC.before args s = true) : ∀ w ∈ ((List.range 6).map fun i => Cond.eq (.elem (.static "RingTransit$1" "$SwitchMap$RingTransit$Fault" "[I") (.int (Int32.ofNat i))) (.int (Int32.ofInt (swfL.getD i 0)))), w.before args s = true := nr_all (ps := [4993, 7041, 6017, 8065, 2113, 5185]) (by decide +kernel) hn
theorem n_T1 (hn : narC.before args s = true) : ∀ w ∈ ((List.range 14).map fun i => Cond.eq (.elem (.static "RingTransit$1" "$SwitchMap$RingTransit$Command" "[I") (.int (Int32.ofNat i))) (.int (Int32.ofInt (swcL.getD i 0)))), w.before args s = true := nr_all (ps := [5481, 7529, 2921, 5993, 8041, 2281, 5353, 7401, 2793, 5865, 7913, 2537, 5609, 7657]) (by decide +kernel) hn
theorem n_D0 (hn : narC.before args s = true) : ∀ w ∈ ((List.range 100).map fun i => Cond.eq (.elem (.static "java/lang/Integer" "DigitOnes" "[B") (.int (Int32.ofNat i))) (.int (Int32.ofInt (48 + ((i % 10 : Nat) : Int))))), w.before args s = true := nr_all (ps := [5409, 7457, 2849, 5921, 7969, 2209, 5281, 7329, 2721, 5793, 7841, 2465, 5537, 7585, 5025, 7073, 6049, 8097, 2145, 5217, 7265, 2657, 5729, 7777, 2401, 5473, 7521, 2913, 5985, 8033, 2273, 5345, 7393, 2785, 5857, 7905, 2529, 5601, 7649, 5089, 7137, 6113, 8161, 2065, 5137, 7185, 2577, 5649, 7697, 2321, 5393, 7441, 2833, 5905, 7953, 2193, 5265, 7313, 2705, 5777, 7825, 2449, 5521, 7569, 5009, 7057, 6033, 8081, 2129, 5201, 7249, 2641, 5713, 7761, 2385, 5457, 7505, 2897, 5969, 8017, 2257, 5329, 7377, 2769, 5841, 7889, 2513, 5585, 7633, 5073, 7121, 6097, 8145, 2097, 5169, 7217, 2609, 5681, 7729, 2353]) (by decide +kernel) hn
theorem n_D1 (hn : narC.before args s = true) : ∀ w ∈ ((List.range 100).map fun i => Cond.eq (.elem (.static "java/lang/Integer" "DigitTens" "[B") (.int (Int32.ofNat i))) (.int (Int32.ofInt (48 + ((i / 10 : Nat) : Int))))), w.before args s = true := nr_all (ps := [5937, 7985, 2225, 5297, 7345, 2737, 5809, 7857, 2481, 5553, 7601, 5041, 7089, 6065, 8113, 2161, 5233, 7281, 2673, 5745, 7793, 2417, 5489, 7537, 2929, 6001, 8049, 2289, 5361, 7409, 2801, 5873, 7921, 2545, 5617, 7665, 5105, 7153, 6129, 8177, 2057, 5129, 7177, 2569, 5641, 7689, 2313, 5385, 7433, 2825, 5897, 7945, 2185, 5257, 7305, 2697, 5769, 7817, 2441, 5513, 7561, 5001, 7049, 6025, 8073, 2121, 5193, 7241, 2633, 5705, 7753, 2377, 5449, 7497, 2889, 5961, 8009, 2249, 5321, 7369, 2761, 5833, 7881, 2505, 5577, 7625, 5065, 7113, 6089, 8137, 2089, 5161, 7209, 2601, 5673, 7721, 2345, 5417, 7465, 2857]) (by decide +kernel) hn
theorem n_R (hn : narC.before args s = true) : ∀ w ∈ (strL.map fun q => Cond.exactly (.string RX12 q.1) "java/lang/String"), w.before args s = true := nr_all (ps := [5213, 2109, 6013, 7683, 7491, 5027, 7395, 2835, 2771, 2867, 2163, 8179, 8091, 5851, 2939, 10503, 5703, 11463, 4903, 5223, 4839]) (by decide +kernel) hn
theorem n_E (hn : narC.before args s = true) : ∀ w ∈ (ncL.map fun q => Cond.not (.castable (xn q.1) (xn q.2))), w.before args s = true := nr_all (ps := [2453, 2773, 5493, 5645, 2229, 5845, 7541, 7693, 5301, 5525, 2933, 2317, 7349, 7573, 7893, 5389, 2741, 5013, 2517, 6005]) (by decide +kernel) hn
theorem n_S3 (hn : narC.before args s = true) : ∀ w ∈ (stL.map fun q => Cond.arrayOf (.static q.1 q.2.1 q.2.2.1) q.2.2.2.1), w.before args s = true := nr_all (ps := [5505, 7785, 2217, 7713, 7473]) (by decide +kernel) hn
theorem n_S4 (hn : narC.before args s = true) : ∀ w ∈ (stL.map fun q => Cond.eq (.length (.static q.1 q.2.1 q.2.2.1)) (.int (Int32.ofNat q.2.2.2.2))), w.before args s = true := nr_all (ps := [7553, 2409, 5289, 2337, 2865]) (by decide +kernel) hn
theorem n_rf (hn : narC.before args s = true) : ∀ w ∈ [Cond.eq (.static "java/lang/String" "COMPACT_STRINGS" "Z") (.int 1), Cond.isRef (.static "jdk/internal/util/Preconditions" "SIOOBE_FORMATTER" "Ljava/util/function/BiFunction;"), Cond.isRef (.static Bundle.tN "UNASSIGNED_STACK" Bundle.steD), Cond.isRef (.static Bundle.tN "SUPPRESSED_SENTINEL" Bundle.listD)], w.before args s = true := nr_all (ps := [7681, 2081, 7233, 2625]) (by decide +kernel) hn
end BG
