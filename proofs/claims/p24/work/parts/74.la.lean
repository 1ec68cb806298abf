/-! 56.la: what stands at the law's entry: classes, rows, statics, strings -/
theorem lw_tb {i : Nat} {w : Cond} (h : tables_1[i]? = some w) : w ∈ lw_tbl := List.mem_append_right _ (List.mem_of_getElem? h)
set_option maxRecDepth 100000 in
theorem lw_nwl : ∀ w ∈ NWL, w ∈ lw_tbl := lw_pls (is := [89, 90, 92, 93, 95, 96, 98, 99, 101, 102, 105, 106, 108, 109, 139, 140, 206, 207, 215, 224, 226, 228, 230, 232, 234, 236, 238, 240, 242, 275, 658, 672, 674, 677, 78, 84, 130, 149, 217, 266, 272, 283, 286, 301, 344, 348, 349, 357, 361, 362, 363, 367, 378, 389, 397, 405, 409, 410, 424, 429, 478, 495, 507, 511, 515, 516, 520, 521, 529, 533, 537, 540, 544, 549, 553, 561, 562, 566, 591, 596, 600, 604, 612, 642, 650, 660, 684, 700, 705, 713, 714, 715, 774]) (by decide +kernel)
def lw_stp : List Nat := [626, 621, 607, 623, 572, 574, 164]
def lw_sp : List Nat := [96, 230, 666]
set_option maxRecDepth 100000 in
theorem lw_lays : ∀ k : Nat, k < 7 → tables_1[lw_stp.getD k 0]? = some (Cond.laysStatic "ChoirBox" (st_nm k) "[I") := by decide +kernel
set_option maxRecDepth 100000 in
theorem lw_strs : ∀ k : Nat, k < 3 → tables_1[lw_sp.getD k 0]? = some (Cond.stringRef (sc_own k) (sc_at k) (sc_tx k)) := by decide +kernel
def lw_fl : List Cond := flatC (Jvm.Cond.and given_1 narrow_1)
set_option maxRecDepth 100000 in
theorem lw_marr : ∀ k : Nat, k < 7 → Cond.arrayOf (.static "ChoirBox" (st_nm k) "[I") .int ∈ lw_fl := by decide +kernel
set_option maxRecDepth 100000 in
theorem lw_mlen : ∀ k : Nat, k < 7 → Cond.eq (.length (.static "ChoirBox" (st_nm k) "[I")) (.int (Int32.ofNat (st_len k))) ∈ lw_fl := by decide +kernel
set_option maxRecDepth 100000 in
theorem lw_mel : ∀ k : Nat, k < 7 → ∀ j : Nat, j < st_len k → Cond.eq (.elem (.static "ChoirBox" (st_nm k) "[I") (.int (Int32.ofNat j))) (.int (st_val k j)) ∈ lw_fl := by decide +kernel
abbrev lw_tm (k : Nat) : Term := .string (sc_own k) (sc_at k)
set_option maxRecDepth 100000 in
theorem lw_sex : ∀ k : Nat, k < 3 → Cond.exactly (lw_tm k) "java/lang/String" ∈ lw_fl := by decide +kernel
set_option maxRecDepth 100000 in
theorem lw_sco : ∀ k : Nat, k < 3 → Cond.eq (.field (lw_tm k) "java/lang/String" "coder" "B") (.int 0) ∈ lw_fl := by decide +kernel
set_option maxRecDepth 100000 in
theorem lw_sar : ∀ k : Nat, k < 3 → Cond.arrayOf (.field (lw_tm k) "java/lang/String" "value" "[B") .byte ∈ lw_fl := by decide +kernel
set_option maxRecDepth 100000 in
theorem lw_sle : ∀ k : Nat, k < 3 → Cond.eq (.length (.field (lw_tm k) "java/lang/String" "value" "[B")) (.int (Int32.ofNat (sc_len.getD k 0))) ∈ lw_fl := by decide +kernel
set_option maxRecDepth 100000 in
theorem lw_sel : ∀ k : Nat, k < 3 → ∀ j : Nat, j < sc_len.getD k 0 → Cond.eq (.elem (.field (lw_tm k) "java/lang/String" "value" "[B") (.int (Int32.ofNat j))) (.int ((sc_byt.getD k []).getD j 0)) ∈ lw_fl := by decide +kernel
set_option maxRecDepth 100000 in
theorem lw_sne : ∀ i : Nat, i < 3 → ∀ j : Nat, j < 3 → i ≠ j → (Cond.not (Cond.eq (lw_tm i) (lw_tm j)) ∈ lw_fl ∨ Cond.not (Cond.eq (lw_tm j) (lw_tm i)) ∈ lw_fl) := by decide +kernel
set_option maxRecDepth 100000 in
theorem lw_mcs : Cond.eq (.static "java/lang/String" "COMPACT_STRINGS" "Z") (.int 1) ∈ lw_fl := by decide +kernel
set_option maxRecDepth 100000 in
theorem lw_msi : Cond.isRef (.static "jdk/internal/util/Preconditions" "SIOOBE_FORMATTER" "Ljava/util/function/BiFunction;") ∈ lw_fl := by decide +kernel
