/-! 56.la: what stands at the law's entry: classes, rows, statics, strings -/
theorem lw_tb {i : Nat} {w : Cond} (h : tables_1[i]? = some w) : w ∈ lw_tbl := List.mem_append_right _ (List.mem_of_getElem? h)
set_option maxRecDepth 100000 in
theorem lw_nwl : ∀ w ∈ NWL, w ∈ lw_tbl := lw_pls (is := [130, 131, 133, 134, 136, 137, 139, 140, 142, 143, 146, 147, 149, 150, 180, 181, 247, 248, 249, 257, 266, 268, 270, 272, 274, 276, 278, 280, 282, 284, 317, 335, 337, 566, 580, 582, 585, 119, 125, 171, 190, 259, 308, 314, 325, 328, 349, 395, 403, 407, 410, 414, 415, 427, 437, 449, 453, 457, 458, 462, 463, 471, 475, 479, 482, 486, 491, 495, 503, 504, 508, 520, 525, 529, 533, 541, 550, 558, 568, 592, 601, 623, 624, 628, 639, 648, 652, 653, 667, 668, 677, 682, 688, 701, 709, 721, 725, 738, 813, 814, 823, 831, 832, 833, 834]) (by decide +kernel)
def lw_stp : List Nat := [494, 489, 475, 491, 522, 525, 166]
def lw_sp : List Nat := [97, 232, 649]
set_option maxRecDepth 100000 in
theorem lw_lays : ∀ k : Nat, k < 7 → tables_1[lw_stp.getD k 0]? = some (Cond.laysStatic "ChoirBox" (st_nm k) "[I") := by decide +kernel
set_option maxRecDepth 100000 in
theorem lw_strs : ∀ k : Nat, k < 3 → tables_1[lw_sp.getD k 0]? = some (Cond.stringRef (sc_own k) (sc_at k) (sc_tx k)) := by decide +kernel
def lw_fl : List Cond := flatC (Jvm.Cond.and given_1 narrow_1)
set_option maxRecDepth 100000 in
theorem lw_marr : ∀ k : Nat, k < 7 → Cond.arrayOf (.static "ChoirBox" (st_nm k) "[I") .int ∈ lw_fl := by decide +kernel
set_option maxRecDepth 100000 in
theorem lw_mlen : ∀ k : Nat, k < 7 → Cond.eq (.length (.static "ChoirBox" (st_nm k) "[I")) (.int (Int32.ofNat (st_len k))) ∈ lw_fl := by decide +kernel
set_option maxRecDepth 100000 in
theorem lw_mel : ∀ k : Nat, k < 7 → ∀ j : Nat, j < st_len k → Cond.eq (.elem (.static "ChoirBox" (st_nm k) "[I") (.int (Int32.ofNat j))) (.int (st_val k j)) ∈ lw_fl := by decide +kernel
abbrev lw_tm (k : Nat) : Term := .string (sc_own k) (sc_at k)
set_option maxRecDepth 100000 in
theorem lw_sex : ∀ k : Nat, k < 3 → Cond.exactly (lw_tm k) "java/lang/String" ∈ lw_fl := by decide +kernel
set_option maxRecDepth 100000 in
theorem lw_sco : ∀ k : Nat, k < 3 → Cond.eq (.field (lw_tm k) "java/lang/String" "coder" "B") (.int 0) ∈ lw_fl := by decide +kernel
set_option maxRecDepth 100000 in
theorem lw_sar : ∀ k : Nat, k < 3 → Cond.arrayOf (.field (lw_tm k) "java/lang/String" "value" "[B") .byte ∈ lw_fl := by decide +kernel
set_option maxRecDepth 100000 in
theorem lw_sle : ∀ k : Nat, k < 3 → Cond.eq (.length (.field (lw_tm k) "java/lang/String" "value" "[B")) (.int (Int32.ofNat (sc_len.getD k 0))) ∈ lw_fl := by decide +kernel
set_option maxRecDepth 100000 in
theorem lw_sel : ∀ k : Nat, k < 3 → ∀ j : Nat, j < sc_len.getD k 0 → Cond.eq (.elem (.field (lw_tm k) "java/lang/String" "value" "[B") (.int (Int32.ofNat j))) (.int ((sc_byt.getD k []).getD j 0)) ∈ lw_fl := by decide +kernel
set_option maxRecDepth 100000 in
theorem lw_sne : ∀ i : Nat, i < 3 → ∀ j : Nat, j < 3 → i ≠ j → (Cond.not (Cond.eq (lw_tm i) (lw_tm j)) ∈ lw_fl ∨ Cond.not (Cond.eq (lw_tm j) (lw_tm i)) ∈ lw_fl) := by decide +kernel
set_option maxRecDepth 100000 in
theorem lw_mcs : Cond.eq (.static "java/lang/String" "COMPACT_STRINGS" "Z") (.int 1) ∈ lw_fl := by decide +kernel
set_option maxRecDepth 100000 in
theorem lw_msi : Cond.isRef (.static "jdk/internal/util/Preconditions" "SIOOBE_FORMATTER" "Ljava/util/function/BiFunction;") ∈ lw_fl := by decide +kernel
