theorem dd_all {b : ByteArray} {l : List (Nat × Instr × Nat)} (h : ∀ q ∈ l, decode b q.1 = .ok (q.2.1, q.2.2)) (k : Nat) {pc : Nat} {i : Instr} {n : Nat} (hk : l[k]? = some (pc, i, n)) : decode b pc = .ok (i, n) := h (pc, i, n) (List.mem_of_getElem? hk)
def DJ0_length_8abf5_0 : List (Nat × Instr × Nat) := [(0, .aload_n 0, 1), (1, .getfield 9, 3), (4, .arraylength, 1), (5, .aload_n 0, 1), (6, .invokevirtual 335, 3), (9, .ishr, 1), (10, .ireturn, 1)]
theorem DJ0_length_8abf5_0_ok : ∀ q ∈ DJ0_length_8abf5_0, decode cJ0_length_8abf5 q.1 = .ok (q.2.1, q.2.2) := by decide +kernel
theorem dJ0_length_8abf5_0 : decode cJ0_length_8abf5 0 = .ok (.aload_n 0, 1) := dd_all DJ0_length_8abf5_0_ok 0 rfl
theorem dJ0_length_8abf5_1 : decode cJ0_length_8abf5 1 = .ok (.getfield 9, 3) := dd_all DJ0_length_8abf5_0_ok 1 rfl
theorem dJ0_length_8abf5_4 : decode cJ0_length_8abf5 4 = .ok (.arraylength, 1) := dd_all DJ0_length_8abf5_0_ok 2 rfl
theorem dJ0_length_8abf5_5 : decode cJ0_length_8abf5 5 = .ok (.aload_n 0, 1) := dd_all DJ0_length_8abf5_0_ok 3 rfl
theorem dJ0_length_8abf5_6 : decode cJ0_length_8abf5 6 = .ok (.invokevirtual 335, 3) := dd_all DJ0_length_8abf5_0_ok 4 rfl
theorem dJ0_length_8abf5_9 : decode cJ0_length_8abf5 9 = .ok (.ishr, 1) := dd_all DJ0_length_8abf5_0_ok 5 rfl
theorem dJ0_length_8abf5_10 : decode cJ0_length_8abf5 10 = .ok (.ireturn, 1) := dd_all DJ0_length_8abf5_0_ok 6 rfl
def DJ0_charAt_5068e_0 : List (Nat × Instr × Nat) := [(0, .aload_n 0, 1), (1, .invokevirtual 492, 3), (4, .ifCond .eq 12, 3), (7, .aload_n 0, 1), (8, .getfield 9, 3), (11, .iload_n 1, 1), (12, .invokestatic 495, 3), (15, .ireturn, 1), (16, .aload_n 0, 1), (17, .getfield 9, 3), (20, .iload_n 1, 1), (21, .invokestatic 498, 3), (24, .ireturn, 1)]
theorem DJ0_charAt_5068e_0_ok : ∀ q ∈ DJ0_charAt_5068e_0, decode cJ0_charAt_5068e q.1 = .ok (q.2.1, q.2.2) := by decide +kernel
theorem dJ0_charAt_5068e_0 : decode cJ0_charAt_5068e 0 = .ok (.aload_n 0, 1) := dd_all DJ0_charAt_5068e_0_ok 0 rfl
theorem dJ0_charAt_5068e_1 : decode cJ0_charAt_5068e 1 = .ok (.invokevirtual 492, 3) := dd_all DJ0_charAt_5068e_0_ok 1 rfl
theorem dJ0_charAt_5068e_4 : decode cJ0_charAt_5068e 4 = .ok (.ifCond .eq 12, 3) := dd_all DJ0_charAt_5068e_0_ok 2 rfl
theorem dJ0_charAt_5068e_7 : decode cJ0_charAt_5068e 7 = .ok (.aload_n 0, 1) := dd_all DJ0_charAt_5068e_0_ok 3 rfl
theorem dJ0_charAt_5068e_8 : decode cJ0_charAt_5068e 8 = .ok (.getfield 9, 3) := dd_all DJ0_charAt_5068e_0_ok 4 rfl
theorem dJ0_charAt_5068e_11 : decode cJ0_charAt_5068e 11 = .ok (.iload_n 1, 1) := dd_all DJ0_charAt_5068e_0_ok 5 rfl
theorem dJ0_charAt_5068e_12 : decode cJ0_charAt_5068e 12 = .ok (.invokestatic 495, 3) := dd_all DJ0_charAt_5068e_0_ok 6 rfl
theorem dJ0_charAt_5068e_15 : decode cJ0_charAt_5068e 15 = .ok (.ireturn, 1) := dd_all DJ0_charAt_5068e_0_ok 7 rfl
theorem dJ0_charAt_5068e_16 : decode cJ0_charAt_5068e 16 = .ok (.aload_n 0, 1) := dd_all DJ0_charAt_5068e_0_ok 8 rfl
theorem dJ0_charAt_5068e_17 : decode cJ0_charAt_5068e 17 = .ok (.getfield 9, 3) := dd_all DJ0_charAt_5068e_0_ok 9 rfl
theorem dJ0_charAt_5068e_20 : decode cJ0_charAt_5068e 20 = .ok (.iload_n 1, 1) := dd_all DJ0_charAt_5068e_0_ok 10 rfl
theorem dJ0_charAt_5068e_21 : decode cJ0_charAt_5068e 21 = .ok (.invokestatic 498, 3) := dd_all DJ0_charAt_5068e_0_ok 11 rfl
theorem dJ0_charAt_5068e_24 : decode cJ0_charAt_5068e 24 = .ok (.ireturn, 1) := dd_all DJ0_charAt_5068e_0_ok 12 rfl
def DJ0_indexOf_0f7a4_0 : List (Nat × Instr × Nat) := [(0, .aload_n 0, 1), (1, .iload_n 1, 1), (2, .iconst 0, 1), (3, .invokevirtual 633, 3), (6, .ireturn, 1)]
theorem DJ0_indexOf_0f7a4_0_ok : ∀ q ∈ DJ0_indexOf_0f7a4_0, decode cJ0_indexOf_0f7a4 q.1 = .ok (q.2.1, q.2.2) := by decide +kernel
theorem dJ0_indexOf_0f7a4_0 : decode cJ0_indexOf_0f7a4 0 = .ok (.aload_n 0, 1) := dd_all DJ0_indexOf_0f7a4_0_ok 0 rfl
theorem dJ0_indexOf_0f7a4_1 : decode cJ0_indexOf_0f7a4 1 = .ok (.iload_n 1, 1) := dd_all DJ0_indexOf_0f7a4_0_ok 1 rfl
theorem dJ0_indexOf_0f7a4_2 : decode cJ0_indexOf_0f7a4 2 = .ok (.iconst 0, 1) := dd_all DJ0_indexOf_0f7a4_0_ok 2 rfl
theorem dJ0_indexOf_0f7a4_3 : decode cJ0_indexOf_0f7a4 3 = .ok (.invokevirtual 633, 3) := dd_all DJ0_indexOf_0f7a4_0_ok 3 rfl
theorem dJ0_indexOf_0f7a4_6 : decode cJ0_indexOf_0f7a4 6 = .ok (.ireturn, 1) := dd_all DJ0_indexOf_0f7a4_0_ok 4 rfl
def DJ0_indexOf_7cf53_0 : List (Nat × Instr × Nat) := [(0, .aload_n 0, 1), (1, .invokevirtual 492, 3), (4, .ifCond .eq 19, 3), (7, .aload_n 0, 1), (8, .getfield 9, 3), (11, .iload_n 1, 1), (12, .iload_n 2, 1), (13, .aload_n 0, 1), (14, .invokevirtual 505, 3), (17, .invokestatic 637, 3), (20, .goto 16, 3), (23, .aload_n 0, 1), (24, .getfield 9, 3), (27, .iload_n 1, 1), (28, .iload_n 2, 1), (29, .aload_n 0, 1), (30, .invokevirtual 505, 3), (33, .invokestatic 640, 3), (36, .ireturn, 1)]
theorem DJ0_indexOf_7cf53_0_ok : ∀ q ∈ DJ0_indexOf_7cf53_0, decode cJ0_indexOf_7cf53 q.1 = .ok (q.2.1, q.2.2) := by decide +kernel
theorem dJ0_indexOf_7cf53_0 : decode cJ0_indexOf_7cf53 0 = .ok (.aload_n 0, 1) := dd_all DJ0_indexOf_7cf53_0_ok 0 rfl
theorem dJ0_indexOf_7cf53_1 : decode cJ0_indexOf_7cf53 1 = .ok (.invokevirtual 492, 3) := dd_all DJ0_indexOf_7cf53_0_ok 1 rfl
theorem dJ0_indexOf_7cf53_4 : decode cJ0_indexOf_7cf53 4 = .ok (.ifCond .eq 19, 3) := dd_all DJ0_indexOf_7cf53_0_ok 2 rfl
theorem dJ0_indexOf_7cf53_7 : decode cJ0_indexOf_7cf53 7 = .ok (.aload_n 0, 1) := dd_all DJ0_indexOf_7cf53_0_ok 3 rfl
theorem dJ0_indexOf_7cf53_8 : decode cJ0_indexOf_7cf53 8 = .ok (.getfield 9, 3) := dd_all DJ0_indexOf_7cf53_0_ok 4 rfl
theorem dJ0_indexOf_7cf53_11 : decode cJ0_indexOf_7cf53 11 = .ok (.iload_n 1, 1) := dd_all DJ0_indexOf_7cf53_0_ok 5 rfl
theorem dJ0_indexOf_7cf53_12 : decode cJ0_indexOf_7cf53 12 = .ok (.iload_n 2, 1) := dd_all DJ0_indexOf_7cf53_0_ok 6 rfl
theorem dJ0_indexOf_7cf53_13 : decode cJ0_indexOf_7cf53 13 = .ok (.aload_n 0, 1) := dd_all DJ0_indexOf_7cf53_0_ok 7 rfl
theorem dJ0_indexOf_7cf53_14 : decode cJ0_indexOf_7cf53 14 = .ok (.invokevirtual 505, 3) := dd_all DJ0_indexOf_7cf53_0_ok 8 rfl
theorem dJ0_indexOf_7cf53_17 : decode cJ0_indexOf_7cf53 17 = .ok (.invokestatic 637, 3) := dd_all DJ0_indexOf_7cf53_0_ok 9 rfl
theorem dJ0_indexOf_7cf53_20 : decode cJ0_indexOf_7cf53 20 = .ok (.goto 16, 3) := dd_all DJ0_indexOf_7cf53_0_ok 10 rfl
theorem dJ0_indexOf_7cf53_23 : decode cJ0_indexOf_7cf53 23 = .ok (.aload_n 0, 1) := dd_all DJ0_indexOf_7cf53_0_ok 11 rfl
theorem dJ0_indexOf_7cf53_24 : decode cJ0_indexOf_7cf53 24 = .ok (.getfield 9, 3) := dd_all DJ0_indexOf_7cf53_0_ok 12 rfl
theorem dJ0_indexOf_7cf53_27 : decode cJ0_indexOf_7cf53 27 = .ok (.iload_n 1, 1) := dd_all DJ0_indexOf_7cf53_0_ok 13 rfl
theorem dJ0_indexOf_7cf53_28 : decode cJ0_indexOf_7cf53 28 = .ok (.iload_n 2, 1) := dd_all DJ0_indexOf_7cf53_0_ok 14 rfl
theorem dJ0_indexOf_7cf53_29 : decode cJ0_indexOf_7cf53 29 = .ok (.aload_n 0, 1) := dd_all DJ0_indexOf_7cf53_0_ok 15 rfl
theorem dJ0_indexOf_7cf53_30 : decode cJ0_indexOf_7cf53 30 = .ok (.invokevirtual 505, 3) := dd_all DJ0_indexOf_7cf53_0_ok 16 rfl
theorem dJ0_indexOf_7cf53_33 : decode cJ0_indexOf_7cf53 33 = .ok (.invokestatic 640, 3) := dd_all DJ0_indexOf_7cf53_0_ok 17 rfl
theorem dJ0_indexOf_7cf53_36 : decode cJ0_indexOf_7cf53 36 = .ok (.ireturn, 1) := dd_all DJ0_indexOf_7cf53_0_ok 18 rfl
def DJ0_coder_7d493_0 : List (Nat × Instr × Nat) := [(0, .getstatic 38, 3), (3, .ifCond .eq 10, 3), (6, .aload_n 0, 1), (7, .getfield 15, 3), (10, .goto 4, 3), (13, .iconst 1, 1), (14, .ireturn, 1)]
theorem DJ0_coder_7d493_0_ok : ∀ q ∈ DJ0_coder_7d493_0, decode cJ0_coder_7d493 q.1 = .ok (q.2.1, q.2.2) := by decide +kernel
theorem dJ0_coder_7d493_0 : decode cJ0_coder_7d493 0 = .ok (.getstatic 38, 3) := dd_all DJ0_coder_7d493_0_ok 0 rfl
theorem dJ0_coder_7d493_3 : decode cJ0_coder_7d493 3 = .ok (.ifCond .eq 10, 3) := dd_all DJ0_coder_7d493_0_ok 1 rfl
theorem dJ0_coder_7d493_6 : decode cJ0_coder_7d493 6 = .ok (.aload_n 0, 1) := dd_all DJ0_coder_7d493_0_ok 2 rfl
theorem dJ0_coder_7d493_7 : decode cJ0_coder_7d493 7 = .ok (.getfield 15, 3) := dd_all DJ0_coder_7d493_0_ok 3 rfl
theorem dJ0_coder_7d493_10 : decode cJ0_coder_7d493 10 = .ok (.goto 4, 3) := dd_all DJ0_coder_7d493_0_ok 4 rfl
theorem dJ0_coder_7d493_13 : decode cJ0_coder_7d493 13 = .ok (.iconst 1, 1) := dd_all DJ0_coder_7d493_0_ok 5 rfl
theorem dJ0_coder_7d493_14 : decode cJ0_coder_7d493 14 = .ok (.ireturn, 1) := dd_all DJ0_coder_7d493_0_ok 6 rfl
def DJ0_isLatin1_aae02_0 : List (Nat × Instr × Nat) := [(0, .getstatic 38, 3), (3, .ifCond .eq 14, 3), (6, .aload_n 0, 1), (7, .getfield 15, 3), (10, .ifCond .ne 7, 3), (13, .iconst 1, 1), (14, .goto 4, 3), (17, .iconst 0, 1), (18, .ireturn, 1)]
theorem DJ0_isLatin1_aae02_0_ok : ∀ q ∈ DJ0_isLatin1_aae02_0, decode cJ0_isLatin1_aae02 q.1 = .ok (q.2.1, q.2.2) := by decide +kernel
theorem dJ0_isLatin1_aae02_0 : decode cJ0_isLatin1_aae02 0 = .ok (.getstatic 38, 3) := dd_all DJ0_isLatin1_aae02_0_ok 0 rfl
theorem dJ0_isLatin1_aae02_3 : decode cJ0_isLatin1_aae02 3 = .ok (.ifCond .eq 14, 3) := dd_all DJ0_isLatin1_aae02_0_ok 1 rfl
theorem dJ0_isLatin1_aae02_6 : decode cJ0_isLatin1_aae02 6 = .ok (.aload_n 0, 1) := dd_all DJ0_isLatin1_aae02_0_ok 2 rfl
theorem dJ0_isLatin1_aae02_7 : decode cJ0_isLatin1_aae02 7 = .ok (.getfield 15, 3) := dd_all DJ0_isLatin1_aae02_0_ok 3 rfl
theorem dJ0_isLatin1_aae02_10 : decode cJ0_isLatin1_aae02 10 = .ok (.ifCond .ne 7, 3) := dd_all DJ0_isLatin1_aae02_0_ok 4 rfl
theorem dJ0_isLatin1_aae02_13 : decode cJ0_isLatin1_aae02 13 = .ok (.iconst 1, 1) := dd_all DJ0_isLatin1_aae02_0_ok 5 rfl
theorem dJ0_isLatin1_aae02_14 : decode cJ0_isLatin1_aae02 14 = .ok (.goto 4, 3) := dd_all DJ0_isLatin1_aae02_0_ok 6 rfl
theorem dJ0_isLatin1_aae02_17 : decode cJ0_isLatin1_aae02 17 = .ok (.iconst 0, 1) := dd_all DJ0_isLatin1_aae02_0_ok 7 rfl
theorem dJ0_isLatin1_aae02_18 : decode cJ0_isLatin1_aae02 18 = .ok (.ireturn, 1) := dd_all DJ0_isLatin1_aae02_0_ok 8 rfl
def DJ0_checkIndex_df160_0 : List (Nat × Instr × Nat) := [(0, .iload_n 0, 1), (1, .iload_n 1, 1), (2, .getstatic 1053, 3), (5, .invokestatic 1059, 3), (8, .pop, 1), (9, .return_, 1)]
theorem DJ0_checkIndex_df160_0_ok : ∀ q ∈ DJ0_checkIndex_df160_0, decode cJ0_checkIndex_df160 q.1 = .ok (q.2.1, q.2.2) := by decide +kernel
theorem dJ0_checkIndex_df160_0 : decode cJ0_checkIndex_df160 0 = .ok (.iload_n 0, 1) := dd_all DJ0_checkIndex_df160_0_ok 0 rfl
theorem dJ0_checkIndex_df160_1 : decode cJ0_checkIndex_df160 1 = .ok (.iload_n 1, 1) := dd_all DJ0_checkIndex_df160_0_ok 1 rfl
theorem dJ0_checkIndex_df160_2 : decode cJ0_checkIndex_df160 2 = .ok (.getstatic 1053, 3) := dd_all DJ0_checkIndex_df160_0_ok 2 rfl
theorem dJ0_checkIndex_df160_5 : decode cJ0_checkIndex_df160 5 = .ok (.invokestatic 1059, 3) := dd_all DJ0_checkIndex_df160_0_ok 3 rfl
theorem dJ0_checkIndex_df160_8 : decode cJ0_checkIndex_df160 8 = .ok (.pop, 1) := dd_all DJ0_checkIndex_df160_0_ok 4 rfl
theorem dJ0_checkIndex_df160_9 : decode cJ0_checkIndex_df160 9 = .ok (.return_, 1) := dd_all DJ0_checkIndex_df160_0_ok 5 rfl
def DJ0_checkBoundsBeginEnd_23922_0 : List (Nat × Instr × Nat) := [(0, .iload_n 0, 1), (1, .iload_n 1, 1), (2, .iload_n 2, 1), (3, .getstatic 1053, 3), (6, .invokestatic 1062, 3), (9, .pop, 1), (10, .return_, 1)]
theorem DJ0_checkBoundsBeginEnd_23922_0_ok : ∀ q ∈ DJ0_checkBoundsBeginEnd_23922_0, decode cJ0_checkBoundsBeginEnd_23922 q.1 = .ok (q.2.1, q.2.2) := by decide +kernel
theorem dJ0_checkBoundsBeginEnd_23922_0 : decode cJ0_checkBoundsBeginEnd_23922 0 = .ok (.iload_n 0, 1) := dd_all DJ0_checkBoundsBeginEnd_23922_0_ok 0 rfl
theorem dJ0_checkBoundsBeginEnd_23922_1 : decode cJ0_checkBoundsBeginEnd_23922 1 = .ok (.iload_n 1, 1) := dd_all DJ0_checkBoundsBeginEnd_23922_0_ok 1 rfl
theorem dJ0_checkBoundsBeginEnd_23922_2 : decode cJ0_checkBoundsBeginEnd_23922 2 = .ok (.iload_n 2, 1) := dd_all DJ0_checkBoundsBeginEnd_23922_0_ok 2 rfl
theorem dJ0_checkBoundsBeginEnd_23922_3 : decode cJ0_checkBoundsBeginEnd_23922 3 = .ok (.getstatic 1053, 3) := dd_all DJ0_checkBoundsBeginEnd_23922_0_ok 3 rfl
theorem dJ0_checkBoundsBeginEnd_23922_6 : decode cJ0_checkBoundsBeginEnd_23922 6 = .ok (.invokestatic 1062, 3) := dd_all DJ0_checkBoundsBeginEnd_23922_0_ok 4 rfl
theorem dJ0_checkBoundsBeginEnd_23922_9 : decode cJ0_checkBoundsBeginEnd_23922 9 = .ok (.pop, 1) := dd_all DJ0_checkBoundsBeginEnd_23922_0_ok 5 rfl
theorem dJ0_checkBoundsBeginEnd_23922_10 : decode cJ0_checkBoundsBeginEnd_23922 10 = .ok (.return_, 1) := dd_all DJ0_checkBoundsBeginEnd_23922_0_ok 6 rfl
def DJ1_charAt_3b067_0 : List (Nat × Instr × Nat) := [(0, .iload_n 1, 1), (1, .aload_n 0, 1), (2, .arraylength, 1), (3, .invokestatic 9, 3), (6, .aload_n 0, 1), (7, .iload_n 1, 1), (8, .baload, 1), (9, .sipush 255, 3), (12, .iand, 1), (13, .i2c, 1), (14, .ireturn, 1)]
theorem DJ1_charAt_3b067_0_ok : ∀ q ∈ DJ1_charAt_3b067_0, decode cJ1_charAt_3b067 q.1 = .ok (q.2.1, q.2.2) := by decide +kernel
theorem dJ1_charAt_3b067_0 : decode cJ1_charAt_3b067 0 = .ok (.iload_n 1, 1) := dd_all DJ1_charAt_3b067_0_ok 0 rfl
theorem dJ1_charAt_3b067_1 : decode cJ1_charAt_3b067 1 = .ok (.aload_n 0, 1) := dd_all DJ1_charAt_3b067_0_ok 1 rfl
theorem dJ1_charAt_3b067_2 : decode cJ1_charAt_3b067 2 = .ok (.arraylength, 1) := dd_all DJ1_charAt_3b067_0_ok 2 rfl
theorem dJ1_charAt_3b067_3 : decode cJ1_charAt_3b067 3 = .ok (.invokestatic 9, 3) := dd_all DJ1_charAt_3b067_0_ok 3 rfl
theorem dJ1_charAt_3b067_6 : decode cJ1_charAt_3b067 6 = .ok (.aload_n 0, 1) := dd_all DJ1_charAt_3b067_0_ok 4 rfl
theorem dJ1_charAt_3b067_7 : decode cJ1_charAt_3b067 7 = .ok (.iload_n 1, 1) := dd_all DJ1_charAt_3b067_0_ok 5 rfl
theorem dJ1_charAt_3b067_8 : decode cJ1_charAt_3b067 8 = .ok (.baload, 1) := dd_all DJ1_charAt_3b067_0_ok 6 rfl
theorem dJ1_charAt_3b067_9 : decode cJ1_charAt_3b067 9 = .ok (.sipush 255, 3) := dd_all DJ1_charAt_3b067_0_ok 7 rfl
theorem dJ1_charAt_3b067_12 : decode cJ1_charAt_3b067 12 = .ok (.iand, 1) := dd_all DJ1_charAt_3b067_0_ok 8 rfl
theorem dJ1_charAt_3b067_13 : decode cJ1_charAt_3b067 13 = .ok (.i2c, 1) := dd_all DJ1_charAt_3b067_0_ok 9 rfl
theorem dJ1_charAt_3b067_14 : decode cJ1_charAt_3b067 14 = .ok (.ireturn, 1) := dd_all DJ1_charAt_3b067_0_ok 10 rfl
def DJ1_canEncode_9a6ad_0 : List (Nat × Instr × Nat) := [(0, .iload_n 0, 1), (1, .ifCond .lt 14, 3), (4, .iload_n 0, 1), (5, .sipush 255, 3), (8, .if_icmp .gt 7, 3), (11, .iconst 1, 1), (12, .goto 4, 3), (15, .iconst 0, 1), (16, .ireturn, 1)]
theorem DJ1_canEncode_9a6ad_0_ok : ∀ q ∈ DJ1_canEncode_9a6ad_0, decode cJ1_canEncode_9a6ad q.1 = .ok (q.2.1, q.2.2) := by decide +kernel
theorem dJ1_canEncode_9a6ad_0 : decode cJ1_canEncode_9a6ad 0 = .ok (.iload_n 0, 1) := dd_all DJ1_canEncode_9a6ad_0_ok 0 rfl
theorem dJ1_canEncode_9a6ad_1 : decode cJ1_canEncode_9a6ad 1 = .ok (.ifCond .lt 14, 3) := dd_all DJ1_canEncode_9a6ad_0_ok 1 rfl
theorem dJ1_canEncode_9a6ad_4 : decode cJ1_canEncode_9a6ad 4 = .ok (.iload_n 0, 1) := dd_all DJ1_canEncode_9a6ad_0_ok 2 rfl
theorem dJ1_canEncode_9a6ad_5 : decode cJ1_canEncode_9a6ad 5 = .ok (.sipush 255, 3) := dd_all DJ1_canEncode_9a6ad_0_ok 3 rfl
theorem dJ1_canEncode_9a6ad_8 : decode cJ1_canEncode_9a6ad 8 = .ok (.if_icmp .gt 7, 3) := dd_all DJ1_canEncode_9a6ad_0_ok 4 rfl
theorem dJ1_canEncode_9a6ad_11 : decode cJ1_canEncode_9a6ad 11 = .ok (.iconst 1, 1) := dd_all DJ1_canEncode_9a6ad_0_ok 5 rfl
theorem dJ1_canEncode_9a6ad_12 : decode cJ1_canEncode_9a6ad 12 = .ok (.goto 4, 3) := dd_all DJ1_canEncode_9a6ad_0_ok 6 rfl
theorem dJ1_canEncode_9a6ad_15 : decode cJ1_canEncode_9a6ad 15 = .ok (.iconst 0, 1) := dd_all DJ1_canEncode_9a6ad_0_ok 7 rfl
theorem dJ1_canEncode_9a6ad_16 : decode cJ1_canEncode_9a6ad 16 = .ok (.ireturn, 1) := dd_all DJ1_canEncode_9a6ad_0_ok 8 rfl
def DJ1_indexOf_4cfef_0 : List (Nat × Instr × Nat) := [(0, .iload_n 1, 1), (1, .invokestatic 88, 3), (4, .ifCond .ne 5, 3), (7, .iconst (-1), 1), (8, .ireturn, 1), (9, .iload_n 2, 1), (10, .iconst 0, 1), (11, .invokestatic 92, 3), (14, .istore_n 2, 1), (15, .iload_n 3, 1), (16, .aload_n 0, 1), (17, .arraylength, 1), (18, .invokestatic 38, 3), (21, .istore_n 3, 1), (22, .iload_n 2, 1), (23, .iload_n 3, 1), (24, .if_icmp .lt 5, 3), (27, .iconst (-1), 1), (28, .ireturn, 1), (29, .aload_n 0, 1), (30, .iload_n 1, 1), (31, .iload_n 2, 1), (32, .iload_n 3, 1), (33, .invokestatic 95, 3), (36, .ireturn, 1)]
theorem DJ1_indexOf_4cfef_0_ok : ∀ q ∈ DJ1_indexOf_4cfef_0, decode cJ1_indexOf_4cfef q.1 = .ok (q.2.1, q.2.2) := by decide +kernel
theorem dJ1_indexOf_4cfef_0 : decode cJ1_indexOf_4cfef 0 = .ok (.iload_n 1, 1) := dd_all DJ1_indexOf_4cfef_0_ok 0 rfl
theorem dJ1_indexOf_4cfef_1 : decode cJ1_indexOf_4cfef 1 = .ok (.invokestatic 88, 3) := dd_all DJ1_indexOf_4cfef_0_ok 1 rfl
theorem dJ1_indexOf_4cfef_4 : decode cJ1_indexOf_4cfef 4 = .ok (.ifCond .ne 5, 3) := dd_all DJ1_indexOf_4cfef_0_ok 2 rfl
theorem dJ1_indexOf_4cfef_7 : decode cJ1_indexOf_4cfef 7 = .ok (.iconst (-1), 1) := dd_all DJ1_indexOf_4cfef_0_ok 3 rfl
theorem dJ1_indexOf_4cfef_8 : decode cJ1_indexOf_4cfef 8 = .ok (.ireturn, 1) := dd_all DJ1_indexOf_4cfef_0_ok 4 rfl
theorem dJ1_indexOf_4cfef_9 : decode cJ1_indexOf_4cfef 9 = .ok (.iload_n 2, 1) := dd_all DJ1_indexOf_4cfef_0_ok 5 rfl
theorem dJ1_indexOf_4cfef_10 : decode cJ1_indexOf_4cfef 10 = .ok (.iconst 0, 1) := dd_all DJ1_indexOf_4cfef_0_ok 6 rfl
theorem dJ1_indexOf_4cfef_11 : decode cJ1_indexOf_4cfef 11 = .ok (.invokestatic 92, 3) := dd_all DJ1_indexOf_4cfef_0_ok 7 rfl
theorem dJ1_indexOf_4cfef_14 : decode cJ1_indexOf_4cfef 14 = .ok (.istore_n 2, 1) := dd_all DJ1_indexOf_4cfef_0_ok 8 rfl
theorem dJ1_indexOf_4cfef_15 : decode cJ1_indexOf_4cfef 15 = .ok (.iload_n 3, 1) := dd_all DJ1_indexOf_4cfef_0_ok 9 rfl
theorem dJ1_indexOf_4cfef_16 : decode cJ1_indexOf_4cfef 16 = .ok (.aload_n 0, 1) := dd_all DJ1_indexOf_4cfef_0_ok 10 rfl
theorem dJ1_indexOf_4cfef_17 : decode cJ1_indexOf_4cfef 17 = .ok (.arraylength, 1) := dd_all DJ1_indexOf_4cfef_0_ok 11 rfl
theorem dJ1_indexOf_4cfef_18 : decode cJ1_indexOf_4cfef 18 = .ok (.invokestatic 38, 3) := dd_all DJ1_indexOf_4cfef_0_ok 12 rfl
theorem dJ1_indexOf_4cfef_21 : decode cJ1_indexOf_4cfef 21 = .ok (.istore_n 3, 1) := dd_all DJ1_indexOf_4cfef_0_ok 13 rfl
theorem dJ1_indexOf_4cfef_22 : decode cJ1_indexOf_4cfef 22 = .ok (.iload_n 2, 1) := dd_all DJ1_indexOf_4cfef_0_ok 14 rfl
theorem dJ1_indexOf_4cfef_23 : decode cJ1_indexOf_4cfef 23 = .ok (.iload_n 3, 1) := dd_all DJ1_indexOf_4cfef_0_ok 15 rfl
theorem dJ1_indexOf_4cfef_24 : decode cJ1_indexOf_4cfef 24 = .ok (.if_icmp .lt 5, 3) := dd_all DJ1_indexOf_4cfef_0_ok 16 rfl
theorem dJ1_indexOf_4cfef_27 : decode cJ1_indexOf_4cfef 27 = .ok (.iconst (-1), 1) := dd_all DJ1_indexOf_4cfef_0_ok 17 rfl
theorem dJ1_indexOf_4cfef_28 : decode cJ1_indexOf_4cfef 28 = .ok (.ireturn, 1) := dd_all DJ1_indexOf_4cfef_0_ok 18 rfl
theorem dJ1_indexOf_4cfef_29 : decode cJ1_indexOf_4cfef 29 = .ok (.aload_n 0, 1) := dd_all DJ1_indexOf_4cfef_0_ok 19 rfl
theorem dJ1_indexOf_4cfef_30 : decode cJ1_indexOf_4cfef 30 = .ok (.iload_n 1, 1) := dd_all DJ1_indexOf_4cfef_0_ok 20 rfl
theorem dJ1_indexOf_4cfef_31 : decode cJ1_indexOf_4cfef 31 = .ok (.iload_n 2, 1) := dd_all DJ1_indexOf_4cfef_0_ok 21 rfl
theorem dJ1_indexOf_4cfef_32 : decode cJ1_indexOf_4cfef 32 = .ok (.iload_n 3, 1) := dd_all DJ1_indexOf_4cfef_0_ok 22 rfl
theorem dJ1_indexOf_4cfef_33 : decode cJ1_indexOf_4cfef 33 = .ok (.invokestatic 95, 3) := dd_all DJ1_indexOf_4cfef_0_ok 23 rfl
theorem dJ1_indexOf_4cfef_36 : decode cJ1_indexOf_4cfef 36 = .ok (.ireturn, 1) := dd_all DJ1_indexOf_4cfef_0_ok 24 rfl
def DJ1_indexOfChar_4cfef_0 : List (Nat × Instr × Nat) := [(0, .iload_n 1, 1), (1, .i2b, 1), (2, .istore 4, 2), (4, .iload_n 2, 1), (5, .istore 5, 2), (7, .iload 5, 2), (9, .iload_n 3, 1), (10, .if_icmp .ge 21, 3), (13, .aload_n 0, 1), (14, .iload 5, 2), (16, .baload, 1), (17, .iload 4, 2), (19, .if_icmp .ne 6, 3), (22, .iload 5, 2), (24, .ireturn, 1), (25, .iinc 5 1, 3), (28, .goto (-21), 3), (31, .iconst (-1), 1), (32, .ireturn, 1)]
theorem DJ1_indexOfChar_4cfef_0_ok : ∀ q ∈ DJ1_indexOfChar_4cfef_0, decode cJ1_indexOfChar_4cfef q.1 = .ok (q.2.1, q.2.2) := by decide +kernel
theorem dJ1_indexOfChar_4cfef_0 : decode cJ1_indexOfChar_4cfef 0 = .ok (.iload_n 1, 1) := dd_all DJ1_indexOfChar_4cfef_0_ok 0 rfl
theorem dJ1_indexOfChar_4cfef_1 : decode cJ1_indexOfChar_4cfef 1 = .ok (.i2b, 1) := dd_all DJ1_indexOfChar_4cfef_0_ok 1 rfl
theorem dJ1_indexOfChar_4cfef_2 : decode cJ1_indexOfChar_4cfef 2 = .ok (.istore 4, 2) := dd_all DJ1_indexOfChar_4cfef_0_ok 2 rfl
theorem dJ1_indexOfChar_4cfef_4 : decode cJ1_indexOfChar_4cfef 4 = .ok (.iload_n 2, 1) := dd_all DJ1_indexOfChar_4cfef_0_ok 3 rfl
theorem dJ1_indexOfChar_4cfef_5 : decode cJ1_indexOfChar_4cfef 5 = .ok (.istore 5, 2) := dd_all DJ1_indexOfChar_4cfef_0_ok 4 rfl
theorem dJ1_indexOfChar_4cfef_7 : decode cJ1_indexOfChar_4cfef 7 = .ok (.iload 5, 2) := dd_all DJ1_indexOfChar_4cfef_0_ok 5 rfl
theorem dJ1_indexOfChar_4cfef_9 : decode cJ1_indexOfChar_4cfef 9 = .ok (.iload_n 3, 1) := dd_all DJ1_indexOfChar_4cfef_0_ok 6 rfl
theorem dJ1_indexOfChar_4cfef_10 : decode cJ1_indexOfChar_4cfef 10 = .ok (.if_icmp .ge 21, 3) := dd_all DJ1_indexOfChar_4cfef_0_ok 7 rfl
theorem dJ1_indexOfChar_4cfef_13 : decode cJ1_indexOfChar_4cfef 13 = .ok (.aload_n 0, 1) := dd_all DJ1_indexOfChar_4cfef_0_ok 8 rfl
theorem dJ1_indexOfChar_4cfef_14 : decode cJ1_indexOfChar_4cfef 14 = .ok (.iload 5, 2) := dd_all DJ1_indexOfChar_4cfef_0_ok 9 rfl
theorem dJ1_indexOfChar_4cfef_16 : decode cJ1_indexOfChar_4cfef 16 = .ok (.baload, 1) := dd_all DJ1_indexOfChar_4cfef_0_ok 10 rfl
theorem dJ1_indexOfChar_4cfef_17 : decode cJ1_indexOfChar_4cfef 17 = .ok (.iload 4, 2) := dd_all DJ1_indexOfChar_4cfef_0_ok 11 rfl
theorem dJ1_indexOfChar_4cfef_19 : decode cJ1_indexOfChar_4cfef 19 = .ok (.if_icmp .ne 6, 3) := dd_all DJ1_indexOfChar_4cfef_0_ok 12 rfl
theorem dJ1_indexOfChar_4cfef_22 : decode cJ1_indexOfChar_4cfef 22 = .ok (.iload 5, 2) := dd_all DJ1_indexOfChar_4cfef_0_ok 13 rfl
theorem dJ1_indexOfChar_4cfef_24 : decode cJ1_indexOfChar_4cfef 24 = .ok (.ireturn, 1) := dd_all DJ1_indexOfChar_4cfef_0_ok 14 rfl
theorem dJ1_indexOfChar_4cfef_25 : decode cJ1_indexOfChar_4cfef 25 = .ok (.iinc 5 1, 3) := dd_all DJ1_indexOfChar_4cfef_0_ok 15 rfl
theorem dJ1_indexOfChar_4cfef_28 : decode cJ1_indexOfChar_4cfef 28 = .ok (.goto (-21), 3) := dd_all DJ1_indexOfChar_4cfef_0_ok 16 rfl
theorem dJ1_indexOfChar_4cfef_31 : decode cJ1_indexOfChar_4cfef 31 = .ok (.iconst (-1), 1) := dd_all DJ1_indexOfChar_4cfef_0_ok 17 rfl
theorem dJ1_indexOfChar_4cfef_32 : decode cJ1_indexOfChar_4cfef 32 = .ok (.ireturn, 1) := dd_all DJ1_indexOfChar_4cfef_0_ok 18 rfl
def DJ3_checkIndex_8e157_0 : List (Nat × Instr × Nat) := [(0, .iload_n 0, 1), (1, .ifCond .lt 8, 3), (4, .iload_n 0, 1), (5, .iload_n 1, 1), (6, .if_icmp .lt 10, 3), (9, .aload_n 2, 1), (10, .iload_n 0, 1), (11, .iload_n 1, 1), (12, .invokestatic 95, 3), (15, .athrow, 1), (16, .iload_n 0, 1), (17, .ireturn, 1)]
theorem DJ3_checkIndex_8e157_0_ok : ∀ q ∈ DJ3_checkIndex_8e157_0, decode cJ3_checkIndex_8e157 q.1 = .ok (q.2.1, q.2.2) := by decide +kernel
theorem dJ3_checkIndex_8e157_0 : decode cJ3_checkIndex_8e157 0 = .ok (.iload_n 0, 1) := dd_all DJ3_checkIndex_8e157_0_ok 0 rfl
theorem dJ3_checkIndex_8e157_1 : decode cJ3_checkIndex_8e157 1 = .ok (.ifCond .lt 8, 3) := dd_all DJ3_checkIndex_8e157_0_ok 1 rfl
theorem dJ3_checkIndex_8e157_4 : decode cJ3_checkIndex_8e157 4 = .ok (.iload_n 0, 1) := dd_all DJ3_checkIndex_8e157_0_ok 2 rfl
theorem dJ3_checkIndex_8e157_5 : decode cJ3_checkIndex_8e157 5 = .ok (.iload_n 1, 1) := dd_all DJ3_checkIndex_8e157_0_ok 3 rfl
theorem dJ3_checkIndex_8e157_6 : decode cJ3_checkIndex_8e157 6 = .ok (.if_icmp .lt 10, 3) := dd_all DJ3_checkIndex_8e157_0_ok 4 rfl
theorem dJ3_checkIndex_8e157_9 : decode cJ3_checkIndex_8e157 9 = .ok (.aload_n 2, 1) := dd_all DJ3_checkIndex_8e157_0_ok 5 rfl
theorem dJ3_checkIndex_8e157_10 : decode cJ3_checkIndex_8e157 10 = .ok (.iload_n 0, 1) := dd_all DJ3_checkIndex_8e157_0_ok 6 rfl
theorem dJ3_checkIndex_8e157_11 : decode cJ3_checkIndex_8e157 11 = .ok (.iload_n 1, 1) := dd_all DJ3_checkIndex_8e157_0_ok 7 rfl
theorem dJ3_checkIndex_8e157_12 : decode cJ3_checkIndex_8e157 12 = .ok (.invokestatic 95, 3) := dd_all DJ3_checkIndex_8e157_0_ok 8 rfl
theorem dJ3_checkIndex_8e157_15 : decode cJ3_checkIndex_8e157 15 = .ok (.athrow, 1) := dd_all DJ3_checkIndex_8e157_0_ok 9 rfl
theorem dJ3_checkIndex_8e157_16 : decode cJ3_checkIndex_8e157 16 = .ok (.iload_n 0, 1) := dd_all DJ3_checkIndex_8e157_0_ok 10 rfl
theorem dJ3_checkIndex_8e157_17 : decode cJ3_checkIndex_8e157 17 = .ok (.ireturn, 1) := dd_all DJ3_checkIndex_8e157_0_ok 11 rfl
def DJ3_checkFromToIndex_8c36e_0 : List (Nat × Instr × Nat) := [(0, .iload_n 0, 1), (1, .ifCond .lt 13, 3), (4, .iload_n 0, 1), (5, .iload_n 1, 1), (6, .if_icmp .gt 8, 3), (9, .iload_n 1, 1), (10, .iload_n 2, 1), (11, .if_icmp .le 11, 3), (14, .aload_n 3, 1), (15, .iload_n 0, 1), (16, .iload_n 1, 1), (17, .iload_n 2, 1), (18, .invokestatic 99, 3), (21, .athrow, 1), (22, .iload_n 0, 1), (23, .ireturn, 1)]
theorem DJ3_checkFromToIndex_8c36e_0_ok : ∀ q ∈ DJ3_checkFromToIndex_8c36e_0, decode cJ3_checkFromToIndex_8c36e q.1 = .ok (q.2.1, q.2.2) := by decide +kernel
theorem dJ3_checkFromToIndex_8c36e_0 : decode cJ3_checkFromToIndex_8c36e 0 = .ok (.iload_n 0, 1) := dd_all DJ3_checkFromToIndex_8c36e_0_ok 0 rfl
theorem dJ3_checkFromToIndex_8c36e_1 : decode cJ3_checkFromToIndex_8c36e 1 = .ok (.ifCond .lt 13, 3) := dd_all DJ3_checkFromToIndex_8c36e_0_ok 1 rfl
theorem dJ3_checkFromToIndex_8c36e_4 : decode cJ3_checkFromToIndex_8c36e 4 = .ok (.iload_n 0, 1) := dd_all DJ3_checkFromToIndex_8c36e_0_ok 2 rfl
theorem dJ3_checkFromToIndex_8c36e_5 : decode cJ3_checkFromToIndex_8c36e 5 = .ok (.iload_n 1, 1) := dd_all DJ3_checkFromToIndex_8c36e_0_ok 3 rfl
theorem dJ3_checkFromToIndex_8c36e_6 : decode cJ3_checkFromToIndex_8c36e 6 = .ok (.if_icmp .gt 8, 3) := dd_all DJ3_checkFromToIndex_8c36e_0_ok 4 rfl
theorem dJ3_checkFromToIndex_8c36e_9 : decode cJ3_checkFromToIndex_8c36e 9 = .ok (.iload_n 1, 1) := dd_all DJ3_checkFromToIndex_8c36e_0_ok 5 rfl
theorem dJ3_checkFromToIndex_8c36e_10 : decode cJ3_checkFromToIndex_8c36e 10 = .ok (.iload_n 2, 1) := dd_all DJ3_checkFromToIndex_8c36e_0_ok 6 rfl
theorem dJ3_checkFromToIndex_8c36e_11 : decode cJ3_checkFromToIndex_8c36e 11 = .ok (.if_icmp .le 11, 3) := dd_all DJ3_checkFromToIndex_8c36e_0_ok 7 rfl
theorem dJ3_checkFromToIndex_8c36e_14 : decode cJ3_checkFromToIndex_8c36e 14 = .ok (.aload_n 3, 1) := dd_all DJ3_checkFromToIndex_8c36e_0_ok 8 rfl
theorem dJ3_checkFromToIndex_8c36e_15 : decode cJ3_checkFromToIndex_8c36e 15 = .ok (.iload_n 0, 1) := dd_all DJ3_checkFromToIndex_8c36e_0_ok 9 rfl
theorem dJ3_checkFromToIndex_8c36e_16 : decode cJ3_checkFromToIndex_8c36e 16 = .ok (.iload_n 1, 1) := dd_all DJ3_checkFromToIndex_8c36e_0_ok 10 rfl
theorem dJ3_checkFromToIndex_8c36e_17 : decode cJ3_checkFromToIndex_8c36e 17 = .ok (.iload_n 2, 1) := dd_all DJ3_checkFromToIndex_8c36e_0_ok 11 rfl
theorem dJ3_checkFromToIndex_8c36e_18 : decode cJ3_checkFromToIndex_8c36e 18 = .ok (.invokestatic 99, 3) := dd_all DJ3_checkFromToIndex_8c36e_0_ok 12 rfl
theorem dJ3_checkFromToIndex_8c36e_21 : decode cJ3_checkFromToIndex_8c36e 21 = .ok (.athrow, 1) := dd_all DJ3_checkFromToIndex_8c36e_0_ok 13 rfl
theorem dJ3_checkFromToIndex_8c36e_22 : decode cJ3_checkFromToIndex_8c36e 22 = .ok (.iload_n 0, 1) := dd_all DJ3_checkFromToIndex_8c36e_0_ok 14 rfl
theorem dJ3_checkFromToIndex_8c36e_23 : decode cJ3_checkFromToIndex_8c36e 23 = .ok (.ireturn, 1) := dd_all DJ3_checkFromToIndex_8c36e_0_ok 15 rfl
def DJ9_max_7cf53_0 : List (Nat × Instr × Nat) := [(0, .iload_n 0, 1), (1, .iload_n 1, 1), (2, .if_icmp .lt 7, 3), (5, .iload_n 0, 1), (6, .goto 4, 3), (9, .iload_n 1, 1), (10, .ireturn, 1)]
theorem DJ9_max_7cf53_0_ok : ∀ q ∈ DJ9_max_7cf53_0, decode cJ9_max_7cf53 q.1 = .ok (q.2.1, q.2.2) := by decide +kernel
theorem dJ9_max_7cf53_0 : decode cJ9_max_7cf53 0 = .ok (.iload_n 0, 1) := dd_all DJ9_max_7cf53_0_ok 0 rfl
theorem dJ9_max_7cf53_1 : decode cJ9_max_7cf53 1 = .ok (.iload_n 1, 1) := dd_all DJ9_max_7cf53_0_ok 1 rfl
theorem dJ9_max_7cf53_2 : decode cJ9_max_7cf53 2 = .ok (.if_icmp .lt 7, 3) := dd_all DJ9_max_7cf53_0_ok 2 rfl
theorem dJ9_max_7cf53_5 : decode cJ9_max_7cf53 5 = .ok (.iload_n 0, 1) := dd_all DJ9_max_7cf53_0_ok 3 rfl
theorem dJ9_max_7cf53_6 : decode cJ9_max_7cf53 6 = .ok (.goto 4, 3) := dd_all DJ9_max_7cf53_0_ok 4 rfl
theorem dJ9_max_7cf53_9 : decode cJ9_max_7cf53 9 = .ok (.iload_n 1, 1) := dd_all DJ9_max_7cf53_0_ok 5 rfl
theorem dJ9_max_7cf53_10 : decode cJ9_max_7cf53 10 = .ok (.ireturn, 1) := dd_all DJ9_max_7cf53_0_ok 6 rfl
def DJ9_min_7cf53_0 : List (Nat × Instr × Nat) := [(0, .iload_n 0, 1), (1, .iload_n 1, 1), (2, .if_icmp .gt 7, 3), (5, .iload_n 0, 1), (6, .goto 4, 3), (9, .iload_n 1, 1), (10, .ireturn, 1)]
theorem DJ9_min_7cf53_0_ok : ∀ q ∈ DJ9_min_7cf53_0, decode cJ9_min_7cf53 q.1 = .ok (q.2.1, q.2.2) := by decide +kernel
theorem dJ9_min_7cf53_0 : decode cJ9_min_7cf53 0 = .ok (.iload_n 0, 1) := dd_all DJ9_min_7cf53_0_ok 0 rfl
theorem dJ9_min_7cf53_1 : decode cJ9_min_7cf53 1 = .ok (.iload_n 1, 1) := dd_all DJ9_min_7cf53_0_ok 1 rfl
theorem dJ9_min_7cf53_2 : decode cJ9_min_7cf53 2 = .ok (.if_icmp .gt 7, 3) := dd_all DJ9_min_7cf53_0_ok 2 rfl
theorem dJ9_min_7cf53_5 : decode cJ9_min_7cf53 5 = .ok (.iload_n 0, 1) := dd_all DJ9_min_7cf53_0_ok 3 rfl
theorem dJ9_min_7cf53_6 : decode cJ9_min_7cf53 6 = .ok (.goto 4, 3) := dd_all DJ9_min_7cf53_0_ok 4 rfl
theorem dJ9_min_7cf53_9 : decode cJ9_min_7cf53 9 = .ok (.iload_n 1, 1) := dd_all DJ9_min_7cf53_0_ok 5 rfl
theorem dJ9_min_7cf53_10 : decode cJ9_min_7cf53 10 = .ok (.ireturn, 1) := dd_all DJ9_min_7cf53_0_ok 6 rfl
def DL_cell_0 : List (Nat × Instr × Nat) := [(0, .iload_n 1, 1), (1, .aload_n 0, 1), (2, .arraylength, 1), (3, .if_icmp .ge 9, 3), (6, .aload_n 0, 1), (7, .iload_n 1, 1), (8, .iaload, 1), (9, .goto 9, 3), (12, .ldc 7, 2), (14, .iload_n 1, 1), (15, .iconst 3, 1), (16, .iadd, 1), (17, .imul, 1), (18, .ireturn, 1)]
theorem DL_cell_0_ok : ∀ q ∈ DL_cell_0, decode cL_cell q.1 = .ok (q.2.1, q.2.2) := by decide +kernel
theorem dL_cell_0 : decode cL_cell 0 = .ok (.iload_n 1, 1) := dd_all DL_cell_0_ok 0 rfl
theorem dL_cell_1 : decode cL_cell 1 = .ok (.aload_n 0, 1) := dd_all DL_cell_0_ok 1 rfl
theorem dL_cell_2 : decode cL_cell 2 = .ok (.arraylength, 1) := dd_all DL_cell_0_ok 2 rfl
theorem dL_cell_3 : decode cL_cell 3 = .ok (.if_icmp .ge 9, 3) := dd_all DL_cell_0_ok 3 rfl
theorem dL_cell_6 : decode cL_cell 6 = .ok (.aload_n 0, 1) := dd_all DL_cell_0_ok 4 rfl
theorem dL_cell_7 : decode cL_cell 7 = .ok (.iload_n 1, 1) := dd_all DL_cell_0_ok 5 rfl
theorem dL_cell_8 : decode cL_cell 8 = .ok (.iaload, 1) := dd_all DL_cell_0_ok 6 rfl
theorem dL_cell_9 : decode cL_cell 9 = .ok (.goto 9, 3) := dd_all DL_cell_0_ok 7 rfl
theorem dL_cell_12 : decode cL_cell 12 = .ok (.ldc 7, 2) := dd_all DL_cell_0_ok 8 rfl
theorem dL_cell_14 : decode cL_cell 14 = .ok (.iload_n 1, 1) := dd_all DL_cell_0_ok 9 rfl
theorem dL_cell_15 : decode cL_cell 15 = .ok (.iconst 3, 1) := dd_all DL_cell_0_ok 10 rfl
theorem dL_cell_16 : decode cL_cell 16 = .ok (.iadd, 1) := dd_all DL_cell_0_ok 11 rfl
theorem dL_cell_17 : decode cL_cell 17 = .ok (.imul, 1) := dd_all DL_cell_0_ok 12 rfl
theorem dL_cell_18 : decode cL_cell 18 = .ok (.ireturn, 1) := dd_all DL_cell_0_ok 13 rfl
def DL_low_0 : List (Nat × Instr × Nat) := [(0, .iload_n 0, 1), (1, .ldc 8, 2), (3, .iand, 1), (4, .iload_n 1, 1), (5, .irem, 1), (6, .ireturn, 1)]
theorem DL_low_0_ok : ∀ q ∈ DL_low_0, decode cL_low q.1 = .ok (q.2.1, q.2.2) := by decide +kernel
theorem dL_low_0 : decode cL_low 0 = .ok (.iload_n 0, 1) := dd_all DL_low_0_ok 0 rfl
theorem dL_low_1 : decode cL_low 1 = .ok (.ldc 8, 2) := dd_all DL_low_0_ok 1 rfl
theorem dL_low_3 : decode cL_low 3 = .ok (.iand, 1) := dd_all DL_low_0_ok 2 rfl
theorem dL_low_4 : decode cL_low 4 = .ok (.iload_n 1, 1) := dd_all DL_low_0_ok 3 rfl
theorem dL_low_5 : decode cL_low 5 = .ok (.irem, 1) := dd_all DL_low_0_ok 4 rfl
theorem dL_low_6 : decode cL_low 6 = .ok (.ireturn, 1) := dd_all DL_low_0_ok 5 rfl
def DL_get_0 : List (Nat × Instr × Nat) := [(0, .lload_n 0, 1), (1, .iload_n 2, 1), (2, .lshr, 1), (3, .lconst 1, 1), (4, .iload_n 3, 1), (5, .lshl, 1), (6, .lconst 1, 1), (7, .lsub, 1), (8, .land, 1), (9, .l2i, 1), (10, .ireturn, 1)]
theorem DL_get_0_ok : ∀ q ∈ DL_get_0, decode cL_get q.1 = .ok (q.2.1, q.2.2) := by decide +kernel
theorem dL_get_0 : decode cL_get 0 = .ok (.lload_n 0, 1) := dd_all DL_get_0_ok 0 rfl
theorem dL_get_1 : decode cL_get 1 = .ok (.iload_n 2, 1) := dd_all DL_get_0_ok 1 rfl
theorem dL_get_2 : decode cL_get 2 = .ok (.lshr, 1) := dd_all DL_get_0_ok 2 rfl
theorem dL_get_3 : decode cL_get 3 = .ok (.lconst 1, 1) := dd_all DL_get_0_ok 3 rfl
theorem dL_get_4 : decode cL_get 4 = .ok (.iload_n 3, 1) := dd_all DL_get_0_ok 4 rfl
theorem dL_get_5 : decode cL_get 5 = .ok (.lshl, 1) := dd_all DL_get_0_ok 5 rfl
theorem dL_get_6 : decode cL_get 6 = .ok (.lconst 1, 1) := dd_all DL_get_0_ok 6 rfl
theorem dL_get_7 : decode cL_get 7 = .ok (.lsub, 1) := dd_all DL_get_0_ok 7 rfl
theorem dL_get_8 : decode cL_get 8 = .ok (.land, 1) := dd_all DL_get_0_ok 8 rfl
theorem dL_get_9 : decode cL_get 9 = .ok (.l2i, 1) := dd_all DL_get_0_ok 9 rfl
theorem dL_get_10 : decode cL_get 10 = .ok (.ireturn, 1) := dd_all DL_get_0_ok 10 rfl
def DL_put_0 : List (Nat × Instr × Nat) := [(0, .lload_n 0, 1), (1, .lconst 1, 1), (2, .iload_n 3, 1), (3, .lshl, 1), (4, .lconst 1, 1), (5, .lsub, 1), (6, .iload_n 2, 1), (7, .lshl, 1), (8, .ldc2_w 9, 3), (11, .lxor, 1), (12, .land, 1), (13, .iload 4, 2), (15, .i2l, 1), (16, .iload_n 2, 1), (17, .lshl, 1), (18, .lor, 1), (19, .lreturn, 1)]
theorem DL_put_0_ok : ∀ q ∈ DL_put_0, decode cL_put q.1 = .ok (q.2.1, q.2.2) := by decide +kernel
theorem dL_put_0 : decode cL_put 0 = .ok (.lload_n 0, 1) := dd_all DL_put_0_ok 0 rfl
theorem dL_put_1 : decode cL_put 1 = .ok (.lconst 1, 1) := dd_all DL_put_0_ok 1 rfl
theorem dL_put_2 : decode cL_put 2 = .ok (.iload_n 3, 1) := dd_all DL_put_0_ok 2 rfl
theorem dL_put_3 : decode cL_put 3 = .ok (.lshl, 1) := dd_all DL_put_0_ok 3 rfl
theorem dL_put_4 : decode cL_put 4 = .ok (.lconst 1, 1) := dd_all DL_put_0_ok 4 rfl
theorem dL_put_5 : decode cL_put 5 = .ok (.lsub, 1) := dd_all DL_put_0_ok 5 rfl
theorem dL_put_6 : decode cL_put 6 = .ok (.iload_n 2, 1) := dd_all DL_put_0_ok 6 rfl
theorem dL_put_7 : decode cL_put 7 = .ok (.lshl, 1) := dd_all DL_put_0_ok 7 rfl
theorem dL_put_8 : decode cL_put 8 = .ok (.ldc2_w 9, 3) := dd_all DL_put_0_ok 8 rfl
theorem dL_put_11 : decode cL_put 11 = .ok (.lxor, 1) := dd_all DL_put_0_ok 9 rfl
theorem dL_put_12 : decode cL_put 12 = .ok (.land, 1) := dd_all DL_put_0_ok 10 rfl
theorem dL_put_13 : decode cL_put 13 = .ok (.iload 4, 2) := dd_all DL_put_0_ok 11 rfl
theorem dL_put_15 : decode cL_put 15 = .ok (.i2l, 1) := dd_all DL_put_0_ok 12 rfl
theorem dL_put_16 : decode cL_put 16 = .ok (.iload_n 2, 1) := dd_all DL_put_0_ok 13 rfl
theorem dL_put_17 : decode cL_put 17 = .ok (.lshl, 1) := dd_all DL_put_0_ok 14 rfl
theorem dL_put_18 : decode cL_put 18 = .ok (.lor, 1) := dd_all DL_put_0_ok 15 rfl
theorem dL_put_19 : decode cL_put 19 = .ok (.lreturn, 1) := dd_all DL_put_0_ok 16 rfl
def DL_is_0 : List (Nat × Instr × Nat) := [(0, .lload_n 0, 1), (1, .bipush 16, 2), (3, .iconst 3, 1), (4, .invokestatic 11, 3), (7, .ireturn, 1)]
theorem DL_is_0_ok : ∀ q ∈ DL_is_0, decode cL_is q.1 = .ok (q.2.1, q.2.2) := by decide +kernel
theorem dL_is_0 : decode cL_is 0 = .ok (.lload_n 0, 1) := dd_all DL_is_0_ok 0 rfl
theorem dL_is_1 : decode cL_is 1 = .ok (.bipush 16, 2) := dd_all DL_is_0_ok 1 rfl
theorem dL_is_3 : decode cL_is 3 = .ok (.iconst 3, 1) := dd_all DL_is_0_ok 2 rfl
theorem dL_is_4 : decode cL_is 4 = .ok (.invokestatic 11, 3) := dd_all DL_is_0_ok 3 rfl
theorem dL_is_7 : decode cL_is 7 = .ok (.ireturn, 1) := dd_all DL_is_0_ok 4 rfl
def DL_level_0 : List (Nat × Instr × Nat) := [(0, .lload_n 0, 1), (1, .bipush 19, 2), (3, .bipush 11, 2), (5, .invokestatic 11, 3), (8, .ireturn, 1)]
theorem DL_level_0_ok : ∀ q ∈ DL_level_0, decode cL_level q.1 = .ok (q.2.1, q.2.2) := by decide +kernel
theorem dL_level_0 : decode cL_level 0 = .ok (.lload_n 0, 1) := dd_all DL_level_0_ok 0 rfl
theorem dL_level_1 : decode cL_level 1 = .ok (.bipush 19, 2) := dd_all DL_level_0_ok 1 rfl
theorem dL_level_3 : decode cL_level 3 = .ok (.bipush 11, 2) := dd_all DL_level_0_ok 2 rfl
theorem dL_level_5 : decode cL_level 5 = .ok (.invokestatic 11, 3) := dd_all DL_level_0_ok 3 rfl
theorem dL_level_8 : decode cL_level 8 = .ok (.ireturn, 1) := dd_all DL_level_0_ok 4 rfl
def DL_placed_0 : List (Nat × Instr × Nat) := [(0, .lload_n 0, 1), (1, .invokestatic 17, 3), (4, .ifCond .le 15, 3), (7, .lload_n 0, 1), (8, .invokestatic 17, 3), (11, .iconst 5, 1), (12, .if_icmp .ge 7, 3), (15, .iconst 1, 1), (16, .goto 4, 3), (19, .iconst 0, 1), (20, .ireturn, 1)]
theorem DL_placed_0_ok : ∀ q ∈ DL_placed_0, decode cL_placed q.1 = .ok (q.2.1, q.2.2) := by decide +kernel
theorem dL_placed_0 : decode cL_placed 0 = .ok (.lload_n 0, 1) := dd_all DL_placed_0_ok 0 rfl
theorem dL_placed_1 : decode cL_placed 1 = .ok (.invokestatic 17, 3) := dd_all DL_placed_0_ok 1 rfl
theorem dL_placed_4 : decode cL_placed 4 = .ok (.ifCond .le 15, 3) := dd_all DL_placed_0_ok 2 rfl
theorem dL_placed_7 : decode cL_placed 7 = .ok (.lload_n 0, 1) := dd_all DL_placed_0_ok 3 rfl
theorem dL_placed_8 : decode cL_placed 8 = .ok (.invokestatic 17, 3) := dd_all DL_placed_0_ok 4 rfl
theorem dL_placed_11 : decode cL_placed 11 = .ok (.iconst 5, 1) := dd_all DL_placed_0_ok 5 rfl
theorem dL_placed_12 : decode cL_placed 12 = .ok (.if_icmp .ge 7, 3) := dd_all DL_placed_0_ok 6 rfl
theorem dL_placed_15 : decode cL_placed 15 = .ok (.iconst 1, 1) := dd_all DL_placed_0_ok 7 rfl
theorem dL_placed_16 : decode cL_placed 16 = .ok (.goto 4, 3) := dd_all DL_placed_0_ok 8 rfl
theorem dL_placed_19 : decode cL_placed 19 = .ok (.iconst 0, 1) := dd_all DL_placed_0_ok 9 rfl
theorem dL_placed_20 : decode cL_placed 20 = .ok (.ireturn, 1) := dd_all DL_placed_0_ok 10 rfl
def DL_many_0 : List (Nat × Instr × Nat) := [(0, .iconst 0, 1), (1, .istore_n 3, 1), (2, .iconst 0, 1), (3, .istore 4, 2), (5, .iload 4, 2), (7, .aload_n 0, 1), (8, .iconst 0, 1), (9, .iaload, 1), (10, .if_icmp .ge 52, 3), (13, .iload_n 3, 1), (14, .iload_n 2, 1), (15, .bipush 9, 2), (17, .if_icmp .ne 21, 3), (20, .aload_n 1, 1), (21, .iload 4, 2), (23, .laload, 1), (24, .invokestatic 21, 3), (27, .ifCond .eq 7, 3), (30, .iconst 1, 1), (31, .goto 23, 3), (34, .iconst 0, 1), (35, .goto 19, 3), (38, .aload_n 1, 1), (39, .iload 4, 2), (41, .laload, 1), (42, .invokestatic 17, 3), (45, .iload_n 2, 1), (46, .if_icmp .ne 7, 3), (49, .iconst 1, 1), (50, .goto 4, 3), (53, .iconst 0, 1), (54, .iadd, 1), (55, .istore_n 3, 1), (56, .iinc 4 1, 3), (59, .goto (-54), 3), (62, .iload_n 3, 1), (63, .ireturn, 1)]
theorem DL_many_0_ok : ∀ q ∈ DL_many_0, decode cL_many q.1 = .ok (q.2.1, q.2.2) := by decide +kernel
theorem dL_many_0 : decode cL_many 0 = .ok (.iconst 0, 1) := dd_all DL_many_0_ok 0 rfl
theorem dL_many_1 : decode cL_many 1 = .ok (.istore_n 3, 1) := dd_all DL_many_0_ok 1 rfl
theorem dL_many_2 : decode cL_many 2 = .ok (.iconst 0, 1) := dd_all DL_many_0_ok 2 rfl
theorem dL_many_3 : decode cL_many 3 = .ok (.istore 4, 2) := dd_all DL_many_0_ok 3 rfl
theorem dL_many_5 : decode cL_many 5 = .ok (.iload 4, 2) := dd_all DL_many_0_ok 4 rfl
theorem dL_many_7 : decode cL_many 7 = .ok (.aload_n 0, 1) := dd_all DL_many_0_ok 5 rfl
theorem dL_many_8 : decode cL_many 8 = .ok (.iconst 0, 1) := dd_all DL_many_0_ok 6 rfl
theorem dL_many_9 : decode cL_many 9 = .ok (.iaload, 1) := dd_all DL_many_0_ok 7 rfl
theorem dL_many_10 : decode cL_many 10 = .ok (.if_icmp .ge 52, 3) := dd_all DL_many_0_ok 8 rfl
theorem dL_many_13 : decode cL_many 13 = .ok (.iload_n 3, 1) := dd_all DL_many_0_ok 9 rfl
theorem dL_many_14 : decode cL_many 14 = .ok (.iload_n 2, 1) := dd_all DL_many_0_ok 10 rfl
theorem dL_many_15 : decode cL_many 15 = .ok (.bipush 9, 2) := dd_all DL_many_0_ok 11 rfl
theorem dL_many_17 : decode cL_many 17 = .ok (.if_icmp .ne 21, 3) := dd_all DL_many_0_ok 12 rfl
theorem dL_many_20 : decode cL_many 20 = .ok (.aload_n 1, 1) := dd_all DL_many_0_ok 13 rfl
theorem dL_many_21 : decode cL_many 21 = .ok (.iload 4, 2) := dd_all DL_many_0_ok 14 rfl
theorem dL_many_23 : decode cL_many 23 = .ok (.laload, 1) := dd_all DL_many_0_ok 15 rfl
theorem dL_many_24 : decode cL_many 24 = .ok (.invokestatic 21, 3) := dd_all DL_many_0_ok 16 rfl
theorem dL_many_27 : decode cL_many 27 = .ok (.ifCond .eq 7, 3) := dd_all DL_many_0_ok 17 rfl
theorem dL_many_30 : decode cL_many 30 = .ok (.iconst 1, 1) := dd_all DL_many_0_ok 18 rfl
theorem dL_many_31 : decode cL_many 31 = .ok (.goto 23, 3) := dd_all DL_many_0_ok 19 rfl
theorem dL_many_34 : decode cL_many 34 = .ok (.iconst 0, 1) := dd_all DL_many_0_ok 20 rfl
theorem dL_many_35 : decode cL_many 35 = .ok (.goto 19, 3) := dd_all DL_many_0_ok 21 rfl
theorem dL_many_38 : decode cL_many 38 = .ok (.aload_n 1, 1) := dd_all DL_many_0_ok 22 rfl
theorem dL_many_39 : decode cL_many 39 = .ok (.iload 4, 2) := dd_all DL_many_0_ok 23 rfl
theorem dL_many_41 : decode cL_many 41 = .ok (.laload, 1) := dd_all DL_many_0_ok 24 rfl
theorem dL_many_42 : decode cL_many 42 = .ok (.invokestatic 17, 3) := dd_all DL_many_0_ok 25 rfl
theorem dL_many_45 : decode cL_many 45 = .ok (.iload_n 2, 1) := dd_all DL_many_0_ok 26 rfl
theorem dL_many_46 : decode cL_many 46 = .ok (.if_icmp .ne 7, 3) := dd_all DL_many_0_ok 27 rfl
theorem dL_many_49 : decode cL_many 49 = .ok (.iconst 1, 1) := dd_all DL_many_0_ok 28 rfl
theorem dL_many_50 : decode cL_many 50 = .ok (.goto 4, 3) := dd_all DL_many_0_ok 29 rfl
theorem dL_many_53 : decode cL_many 53 = .ok (.iconst 0, 1) := dd_all DL_many_0_ok 30 rfl
theorem dL_many_54 : decode cL_many 54 = .ok (.iadd, 1) := dd_all DL_many_0_ok 31 rfl
theorem dL_many_55 : decode cL_many 55 = .ok (.istore_n 3, 1) := dd_all DL_many_0_ok 32 rfl
theorem dL_many_56 : decode cL_many 56 = .ok (.iinc 4 1, 3) := dd_all DL_many_0_ok 33 rfl
theorem dL_many_59 : decode cL_many 59 = .ok (.goto (-54), 3) := dd_all DL_many_0_ok 34 rfl
theorem dL_many_62 : decode cL_many 62 = .ok (.iload_n 3, 1) := dd_all DL_many_0_ok 35 rfl
theorem dL_many_63 : decode cL_many 63 = .ok (.ireturn, 1) := dd_all DL_many_0_ok 36 rfl
def DL_voice_0 : List (Nat × Instr × Nat) := [(0, .iconst 0, 1), (1, .istore 4, 2), (3, .iload 4, 2), (5, .aload_n 0, 1), (6, .iconst 0, 1), (7, .iaload, 1), (8, .if_icmp .ge 40, 3), (11, .aload_n 1, 1), (12, .iload 4, 2), (14, .laload, 1), (15, .invokestatic 21, 3), (18, .ifCond .eq 24, 3), (21, .aload_n 1, 1), (22, .iload 4, 2), (24, .laload, 1), (25, .iconst 0, 1), (26, .bipush 9, 2), (28, .invokestatic 11, 3), (31, .iload_n 2, 1), (32, .iconst 4, 1), (33, .iload_n 3, 1), (34, .imul, 1), (35, .iadd, 1), (36, .if_icmp .ne 6, 3), (39, .iload 4, 2), (41, .ireturn, 1), (42, .iinc 4 1, 3), (45, .goto (-42), 3), (48, .bipush (-4), 2), (50, .ireturn, 1)]
theorem DL_voice_0_ok : ∀ q ∈ DL_voice_0, decode cL_voice q.1 = .ok (q.2.1, q.2.2) := by decide +kernel
theorem dL_voice_0 : decode cL_voice 0 = .ok (.iconst 0, 1) := dd_all DL_voice_0_ok 0 rfl
theorem dL_voice_1 : decode cL_voice 1 = .ok (.istore 4, 2) := dd_all DL_voice_0_ok 1 rfl
theorem dL_voice_3 : decode cL_voice 3 = .ok (.iload 4, 2) := dd_all DL_voice_0_ok 2 rfl
theorem dL_voice_5 : decode cL_voice 5 = .ok (.aload_n 0, 1) := dd_all DL_voice_0_ok 3 rfl
theorem dL_voice_6 : decode cL_voice 6 = .ok (.iconst 0, 1) := dd_all DL_voice_0_ok 4 rfl
theorem dL_voice_7 : decode cL_voice 7 = .ok (.iaload, 1) := dd_all DL_voice_0_ok 5 rfl
theorem dL_voice_8 : decode cL_voice 8 = .ok (.if_icmp .ge 40, 3) := dd_all DL_voice_0_ok 6 rfl
theorem dL_voice_11 : decode cL_voice 11 = .ok (.aload_n 1, 1) := dd_all DL_voice_0_ok 7 rfl
theorem dL_voice_12 : decode cL_voice 12 = .ok (.iload 4, 2) := dd_all DL_voice_0_ok 8 rfl
theorem dL_voice_14 : decode cL_voice 14 = .ok (.laload, 1) := dd_all DL_voice_0_ok 9 rfl
theorem dL_voice_15 : decode cL_voice 15 = .ok (.invokestatic 21, 3) := dd_all DL_voice_0_ok 10 rfl
theorem dL_voice_18 : decode cL_voice 18 = .ok (.ifCond .eq 24, 3) := dd_all DL_voice_0_ok 11 rfl
theorem dL_voice_21 : decode cL_voice 21 = .ok (.aload_n 1, 1) := dd_all DL_voice_0_ok 12 rfl
theorem dL_voice_22 : decode cL_voice 22 = .ok (.iload 4, 2) := dd_all DL_voice_0_ok 13 rfl
theorem dL_voice_24 : decode cL_voice 24 = .ok (.laload, 1) := dd_all DL_voice_0_ok 14 rfl
theorem dL_voice_25 : decode cL_voice 25 = .ok (.iconst 0, 1) := dd_all DL_voice_0_ok 15 rfl
theorem dL_voice_26 : decode cL_voice 26 = .ok (.bipush 9, 2) := dd_all DL_voice_0_ok 16 rfl
theorem dL_voice_28 : decode cL_voice 28 = .ok (.invokestatic 11, 3) := dd_all DL_voice_0_ok 17 rfl
theorem dL_voice_31 : decode cL_voice 31 = .ok (.iload_n 2, 1) := dd_all DL_voice_0_ok 18 rfl
theorem dL_voice_32 : decode cL_voice 32 = .ok (.iconst 4, 1) := dd_all DL_voice_0_ok 19 rfl
theorem dL_voice_33 : decode cL_voice 33 = .ok (.iload_n 3, 1) := dd_all DL_voice_0_ok 20 rfl
theorem dL_voice_34 : decode cL_voice 34 = .ok (.imul, 1) := dd_all DL_voice_0_ok 21 rfl
theorem dL_voice_35 : decode cL_voice 35 = .ok (.iadd, 1) := dd_all DL_voice_0_ok 22 rfl
theorem dL_voice_36 : decode cL_voice 36 = .ok (.if_icmp .ne 6, 3) := dd_all DL_voice_0_ok 23 rfl
theorem dL_voice_39 : decode cL_voice 39 = .ok (.iload 4, 2) := dd_all DL_voice_0_ok 24 rfl
theorem dL_voice_41 : decode cL_voice 41 = .ok (.ireturn, 1) := dd_all DL_voice_0_ok 25 rfl
theorem dL_voice_42 : decode cL_voice 42 = .ok (.iinc 4 1, 3) := dd_all DL_voice_0_ok 26 rfl
theorem dL_voice_45 : decode cL_voice 45 = .ok (.goto (-42), 3) := dd_all DL_voice_0_ok 27 rfl
theorem dL_voice_48 : decode cL_voice 48 = .ok (.bipush (-4), 2) := dd_all DL_voice_0_ok 28 rfl
theorem dL_voice_50 : decode cL_voice 50 = .ok (.ireturn, 1) := dd_all DL_voice_0_ok 29 rfl
def DL_begins_0 : List (Nat × Instr × Nat) := [(0, .aload_n 1, 1), (1, .iload_n 2, 1), (2, .aload_n 1, 1), (3, .iload_n 2, 1), (4, .laload, 1), (5, .bipush 9, 2), (7, .bipush 7, 2), (9, .iload 4, 2), (11, .invokestatic 25, 3), (14, .bipush 16, 2), (16, .iconst 3, 1), (17, .iload_n 3, 1), (18, .invokestatic 25, 3), (21, .bipush 41, 2), (23, .iconst 1, 1), (24, .iconst 0, 1), (25, .invokestatic 25, 3), (28, .bipush 42, 2), (30, .bipush 16, 2), (32, .aload_n 0, 1), (33, .iconst 5, 1), (34, .iaload, 1), (35, .invokestatic 25, 3), (38, .lastore, 1), (39, .aload_n 0, 1), (40, .iconst 5, 1), (41, .dup2, 1), (42, .iaload, 1), (43, .iconst 1, 1), (44, .iadd, 1), (45, .iastore, 1), (46, .return_, 1)]
theorem DL_begins_0_ok : ∀ q ∈ DL_begins_0, decode cL_begins q.1 = .ok (q.2.1, q.2.2) := by decide +kernel
theorem dL_begins_0 : decode cL_begins 0 = .ok (.aload_n 1, 1) := dd_all DL_begins_0_ok 0 rfl
theorem dL_begins_1 : decode cL_begins 1 = .ok (.iload_n 2, 1) := dd_all DL_begins_0_ok 1 rfl
theorem dL_begins_2 : decode cL_begins 2 = .ok (.aload_n 1, 1) := dd_all DL_begins_0_ok 2 rfl
theorem dL_begins_3 : decode cL_begins 3 = .ok (.iload_n 2, 1) := dd_all DL_begins_0_ok 3 rfl
theorem dL_begins_4 : decode cL_begins 4 = .ok (.laload, 1) := dd_all DL_begins_0_ok 4 rfl
theorem dL_begins_5 : decode cL_begins 5 = .ok (.bipush 9, 2) := dd_all DL_begins_0_ok 5 rfl
theorem dL_begins_7 : decode cL_begins 7 = .ok (.bipush 7, 2) := dd_all DL_begins_0_ok 6 rfl
theorem dL_begins_9 : decode cL_begins 9 = .ok (.iload 4, 2) := dd_all DL_begins_0_ok 7 rfl
theorem dL_begins_11 : decode cL_begins 11 = .ok (.invokestatic 25, 3) := dd_all DL_begins_0_ok 8 rfl
theorem dL_begins_14 : decode cL_begins 14 = .ok (.bipush 16, 2) := dd_all DL_begins_0_ok 9 rfl
theorem dL_begins_16 : decode cL_begins 16 = .ok (.iconst 3, 1) := dd_all DL_begins_0_ok 10 rfl
theorem dL_begins_17 : decode cL_begins 17 = .ok (.iload_n 3, 1) := dd_all DL_begins_0_ok 11 rfl
theorem dL_begins_18 : decode cL_begins 18 = .ok (.invokestatic 25, 3) := dd_all DL_begins_0_ok 12 rfl
theorem dL_begins_21 : decode cL_begins 21 = .ok (.bipush 41, 2) := dd_all DL_begins_0_ok 13 rfl
theorem dL_begins_23 : decode cL_begins 23 = .ok (.iconst 1, 1) := dd_all DL_begins_0_ok 14 rfl
theorem dL_begins_24 : decode cL_begins 24 = .ok (.iconst 0, 1) := dd_all DL_begins_0_ok 15 rfl
theorem dL_begins_25 : decode cL_begins 25 = .ok (.invokestatic 25, 3) := dd_all DL_begins_0_ok 16 rfl
theorem dL_begins_28 : decode cL_begins 28 = .ok (.bipush 42, 2) := dd_all DL_begins_0_ok 17 rfl
theorem dL_begins_30 : decode cL_begins 30 = .ok (.bipush 16, 2) := dd_all DL_begins_0_ok 18 rfl
theorem dL_begins_32 : decode cL_begins 32 = .ok (.aload_n 0, 1) := dd_all DL_begins_0_ok 19 rfl
theorem dL_begins_33 : decode cL_begins 33 = .ok (.iconst 5, 1) := dd_all DL_begins_0_ok 20 rfl
theorem dL_begins_34 : decode cL_begins 34 = .ok (.iaload, 1) := dd_all DL_begins_0_ok 21 rfl
theorem dL_begins_35 : decode cL_begins 35 = .ok (.invokestatic 25, 3) := dd_all DL_begins_0_ok 22 rfl
theorem dL_begins_38 : decode cL_begins 38 = .ok (.lastore, 1) := dd_all DL_begins_0_ok 23 rfl
theorem dL_begins_39 : decode cL_begins 39 = .ok (.aload_n 0, 1) := dd_all DL_begins_0_ok 24 rfl
theorem dL_begins_40 : decode cL_begins 40 = .ok (.iconst 5, 1) := dd_all DL_begins_0_ok 25 rfl
theorem dL_begins_41 : decode cL_begins 41 = .ok (.dup2, 1) := dd_all DL_begins_0_ok 26 rfl
theorem dL_begins_42 : decode cL_begins 42 = .ok (.iaload, 1) := dd_all DL_begins_0_ok 27 rfl
theorem dL_begins_43 : decode cL_begins 43 = .ok (.iconst 1, 1) := dd_all DL_begins_0_ok 28 rfl
theorem dL_begins_44 : decode cL_begins 44 = .ok (.iadd, 1) := dd_all DL_begins_0_ok 29 rfl
theorem dL_begins_45 : decode cL_begins 45 = .ok (.iastore, 1) := dd_all DL_begins_0_ok 30 rfl
theorem dL_begins_46 : decode cL_begins 46 = .ok (.return_, 1) := dd_all DL_begins_0_ok 31 rfl
def DL_anew_0 : List (Nat × Instr × Nat) := [(0, .aload_n 0, 1), (1, .aload_n 1, 1), (2, .iload_n 2, 1), (3, .aload_n 1, 1), (4, .iload_n 2, 1), (5, .laload, 1), (6, .invokestatic 29, 3), (9, .bipush 8, 2), (11, .iload_n 3, 1), (12, .imul, 1), (13, .if_icmp .lt 7, 3), (16, .iconst 2, 1), (17, .goto 4, 3), (20, .iconst 1, 1), (21, .iload_n 3, 1), (22, .invokestatic 32, 3), (25, .aload_n 0, 1), (26, .iconst 4, 1), (27, .dup2, 1), (28, .iaload, 1), (29, .iconst 1, 1), (30, .iadd, 1), (31, .iastore, 1), (32, .return_, 1)]
theorem DL_anew_0_ok : ∀ q ∈ DL_anew_0, decode cL_anew q.1 = .ok (q.2.1, q.2.2) := by decide +kernel
theorem dL_anew_0 : decode cL_anew 0 = .ok (.aload_n 0, 1) := dd_all DL_anew_0_ok 0 rfl
theorem dL_anew_1 : decode cL_anew 1 = .ok (.aload_n 1, 1) := dd_all DL_anew_0_ok 1 rfl
theorem dL_anew_2 : decode cL_anew 2 = .ok (.iload_n 2, 1) := dd_all DL_anew_0_ok 2 rfl
theorem dL_anew_3 : decode cL_anew 3 = .ok (.aload_n 1, 1) := dd_all DL_anew_0_ok 3 rfl
theorem dL_anew_4 : decode cL_anew 4 = .ok (.iload_n 2, 1) := dd_all DL_anew_0_ok 4 rfl
theorem dL_anew_5 : decode cL_anew 5 = .ok (.laload, 1) := dd_all DL_anew_0_ok 5 rfl
theorem dL_anew_6 : decode cL_anew 6 = .ok (.invokestatic 29, 3) := dd_all DL_anew_0_ok 6 rfl
theorem dL_anew_9 : decode cL_anew 9 = .ok (.bipush 8, 2) := dd_all DL_anew_0_ok 7 rfl
theorem dL_anew_11 : decode cL_anew 11 = .ok (.iload_n 3, 1) := dd_all DL_anew_0_ok 8 rfl
theorem dL_anew_12 : decode cL_anew 12 = .ok (.imul, 1) := dd_all DL_anew_0_ok 9 rfl
theorem dL_anew_13 : decode cL_anew 13 = .ok (.if_icmp .lt 7, 3) := dd_all DL_anew_0_ok 10 rfl
theorem dL_anew_16 : decode cL_anew 16 = .ok (.iconst 2, 1) := dd_all DL_anew_0_ok 11 rfl
theorem dL_anew_17 : decode cL_anew 17 = .ok (.goto 4, 3) := dd_all DL_anew_0_ok 12 rfl
theorem dL_anew_20 : decode cL_anew 20 = .ok (.iconst 1, 1) := dd_all DL_anew_0_ok 13 rfl
theorem dL_anew_21 : decode cL_anew 21 = .ok (.iload_n 3, 1) := dd_all DL_anew_0_ok 14 rfl
theorem dL_anew_22 : decode cL_anew 22 = .ok (.invokestatic 32, 3) := dd_all DL_anew_0_ok 15 rfl
theorem dL_anew_25 : decode cL_anew 25 = .ok (.aload_n 0, 1) := dd_all DL_anew_0_ok 16 rfl
theorem dL_anew_26 : decode cL_anew 26 = .ok (.iconst 4, 1) := dd_all DL_anew_0_ok 17 rfl
theorem dL_anew_27 : decode cL_anew 27 = .ok (.dup2, 1) := dd_all DL_anew_0_ok 18 rfl
theorem dL_anew_28 : decode cL_anew 28 = .ok (.iaload, 1) := dd_all DL_anew_0_ok 19 rfl
theorem dL_anew_29 : decode cL_anew 29 = .ok (.iconst 1, 1) := dd_all DL_anew_0_ok 20 rfl
theorem dL_anew_30 : decode cL_anew 30 = .ok (.iadd, 1) := dd_all DL_anew_0_ok 21 rfl
theorem dL_anew_31 : decode cL_anew 31 = .ok (.iastore, 1) := dd_all DL_anew_0_ok 22 rfl
theorem dL_anew_32 : decode cL_anew 32 = .ok (.return_, 1) := dd_all DL_anew_0_ok 23 rfl
def DL_home_0 : List (Nat × Instr × Nat) := [(0, .aload_n 0, 1), (1, .aload_n 1, 1), (2, .iconst 4, 1), (3, .invokestatic 36, 3), (6, .ifCond .le 7, 3), (9, .iconst 1, 1), (10, .goto 4, 3), (13, .iconst 0, 1), (14, .istore_n 2, 1), (15, .bipush (-4), 2), (17, .istore_n 3, 1), (18, .ldc2_w 40, 3), (21, .lstore 4, 2), (23, .iconst 0, 1), (24, .istore 6, 2), (26, .iload 6, 2), (28, .aload_n 0, 1), (29, .iconst 0, 1), (30, .iaload, 1), (31, .if_icmp .ge 97, 3), (34, .aload_n 0, 1), (35, .bipush 7, 2), (37, .iaload, 1), (38, .ifCond .ne 14, 3), (41, .aload_n 1, 1), (42, .iload 6, 2), (44, .laload, 1), (45, .invokestatic 29, 3), (48, .i2l, 1), (49, .goto 4, 3), (52, .lconst 0, 1), (53, .bipush 16, 2), (55, .lshl, 1), (56, .aload_n 1, 1), (57, .iload 6, 2), (59, .laload, 1), (60, .bipush 42, 2), (62, .bipush 16, 2), (64, .invokestatic 11, 3), (67, .i2l, 1)]
theorem DL_home_0_ok : ∀ q ∈ DL_home_0, decode cL_home q.1 = .ok (q.2.1, q.2.2) := by decide +kernel
theorem dL_home_0 : decode cL_home 0 = .ok (.aload_n 0, 1) := dd_all DL_home_0_ok 0 rfl
theorem dL_home_1 : decode cL_home 1 = .ok (.aload_n 1, 1) := dd_all DL_home_0_ok 1 rfl
theorem dL_home_2 : decode cL_home 2 = .ok (.iconst 4, 1) := dd_all DL_home_0_ok 2 rfl
theorem dL_home_3 : decode cL_home 3 = .ok (.invokestatic 36, 3) := dd_all DL_home_0_ok 3 rfl
theorem dL_home_6 : decode cL_home 6 = .ok (.ifCond .le 7, 3) := dd_all DL_home_0_ok 4 rfl
theorem dL_home_9 : decode cL_home 9 = .ok (.iconst 1, 1) := dd_all DL_home_0_ok 5 rfl
theorem dL_home_10 : decode cL_home 10 = .ok (.goto 4, 3) := dd_all DL_home_0_ok 6 rfl
theorem dL_home_13 : decode cL_home 13 = .ok (.iconst 0, 1) := dd_all DL_home_0_ok 7 rfl
theorem dL_home_14 : decode cL_home 14 = .ok (.istore_n 2, 1) := dd_all DL_home_0_ok 8 rfl
theorem dL_home_15 : decode cL_home 15 = .ok (.bipush (-4), 2) := dd_all DL_home_0_ok 9 rfl
theorem dL_home_17 : decode cL_home 17 = .ok (.istore_n 3, 1) := dd_all DL_home_0_ok 10 rfl
theorem dL_home_18 : decode cL_home 18 = .ok (.ldc2_w 40, 3) := dd_all DL_home_0_ok 11 rfl
theorem dL_home_21 : decode cL_home 21 = .ok (.lstore 4, 2) := dd_all DL_home_0_ok 12 rfl
theorem dL_home_23 : decode cL_home 23 = .ok (.iconst 0, 1) := dd_all DL_home_0_ok 13 rfl
theorem dL_home_24 : decode cL_home 24 = .ok (.istore 6, 2) := dd_all DL_home_0_ok 14 rfl
theorem dL_home_26 : decode cL_home 26 = .ok (.iload 6, 2) := dd_all DL_home_0_ok 15 rfl
theorem dL_home_28 : decode cL_home 28 = .ok (.aload_n 0, 1) := dd_all DL_home_0_ok 16 rfl
theorem dL_home_29 : decode cL_home 29 = .ok (.iconst 0, 1) := dd_all DL_home_0_ok 17 rfl
theorem dL_home_30 : decode cL_home 30 = .ok (.iaload, 1) := dd_all DL_home_0_ok 18 rfl
theorem dL_home_31 : decode cL_home 31 = .ok (.if_icmp .ge 97, 3) := dd_all DL_home_0_ok 19 rfl
theorem dL_home_34 : decode cL_home 34 = .ok (.aload_n 0, 1) := dd_all DL_home_0_ok 20 rfl
theorem dL_home_35 : decode cL_home 35 = .ok (.bipush 7, 2) := dd_all DL_home_0_ok 21 rfl
theorem dL_home_37 : decode cL_home 37 = .ok (.iaload, 1) := dd_all DL_home_0_ok 22 rfl
theorem dL_home_38 : decode cL_home 38 = .ok (.ifCond .ne 14, 3) := dd_all DL_home_0_ok 23 rfl
theorem dL_home_41 : decode cL_home 41 = .ok (.aload_n 1, 1) := dd_all DL_home_0_ok 24 rfl
theorem dL_home_42 : decode cL_home 42 = .ok (.iload 6, 2) := dd_all DL_home_0_ok 25 rfl
theorem dL_home_44 : decode cL_home 44 = .ok (.laload, 1) := dd_all DL_home_0_ok 26 rfl
theorem dL_home_45 : decode cL_home 45 = .ok (.invokestatic 29, 3) := dd_all DL_home_0_ok 27 rfl
theorem dL_home_48 : decode cL_home 48 = .ok (.i2l, 1) := dd_all DL_home_0_ok 28 rfl
theorem dL_home_49 : decode cL_home 49 = .ok (.goto 4, 3) := dd_all DL_home_0_ok 29 rfl
theorem dL_home_52 : decode cL_home 52 = .ok (.lconst 0, 1) := dd_all DL_home_0_ok 30 rfl
theorem dL_home_53 : decode cL_home 53 = .ok (.bipush 16, 2) := dd_all DL_home_0_ok 31 rfl
theorem dL_home_55 : decode cL_home 55 = .ok (.lshl, 1) := dd_all DL_home_0_ok 32 rfl
theorem dL_home_56 : decode cL_home 56 = .ok (.aload_n 1, 1) := dd_all DL_home_0_ok 33 rfl
theorem dL_home_57 : decode cL_home 57 = .ok (.iload 6, 2) := dd_all DL_home_0_ok 34 rfl
theorem dL_home_59 : decode cL_home 59 = .ok (.laload, 1) := dd_all DL_home_0_ok 35 rfl
theorem dL_home_60 : decode cL_home 60 = .ok (.bipush 42, 2) := dd_all DL_home_0_ok 36 rfl
theorem dL_home_62 : decode cL_home 62 = .ok (.bipush 16, 2) := dd_all DL_home_0_ok 37 rfl
theorem dL_home_64 : decode cL_home 64 = .ok (.invokestatic 11, 3) := dd_all DL_home_0_ok 38 rfl
theorem dL_home_67 : decode cL_home 67 = .ok (.i2l, 1) := dd_all DL_home_0_ok 39 rfl
def DL_home_40 : List (Nat × Instr × Nat) := [(68, .lor, 1), (69, .lstore 7, 2), (71, .aload_n 0, 1), (72, .bipush 7, 2), (74, .iaload, 1), (75, .iconst 2, 1), (76, .if_icmp .ge 46, 3), (79, .iload_n 2, 1), (80, .ifCond .eq 17, 3), (83, .aload_n 1, 1), (84, .iload 6, 2), (86, .laload, 1), (87, .invokestatic 17, 3), (90, .iconst 4, 1), (91, .if_icmp .ne 31, 3), (94, .goto 13, 3), (97, .aload_n 1, 1), (98, .iload 6, 2), (100, .laload, 1), (101, .invokestatic 21, 3), (104, .ifCond .eq 18, 3), (107, .lload 7, 2), (109, .lload 4, 2), (111, .lcmp, 1), (112, .ifCond .ge 10, 3), (115, .iload 6, 2), (117, .istore_n 3, 1), (118, .lload 7, 2), (120, .lstore 4, 2), (122, .iinc 6 1, 3), (125, .goto (-99), 3), (128, .iload_n 3, 1), (129, .ireturn, 1)]
theorem DL_home_40_ok : ∀ q ∈ DL_home_40, decode cL_home q.1 = .ok (q.2.1, q.2.2) := by decide +kernel
theorem dL_home_68 : decode cL_home 68 = .ok (.lor, 1) := dd_all DL_home_40_ok 0 rfl
theorem dL_home_69 : decode cL_home 69 = .ok (.lstore 7, 2) := dd_all DL_home_40_ok 1 rfl
theorem dL_home_71 : decode cL_home 71 = .ok (.aload_n 0, 1) := dd_all DL_home_40_ok 2 rfl
theorem dL_home_72 : decode cL_home 72 = .ok (.bipush 7, 2) := dd_all DL_home_40_ok 3 rfl
theorem dL_home_74 : decode cL_home 74 = .ok (.iaload, 1) := dd_all DL_home_40_ok 4 rfl
theorem dL_home_75 : decode cL_home 75 = .ok (.iconst 2, 1) := dd_all DL_home_40_ok 5 rfl
theorem dL_home_76 : decode cL_home 76 = .ok (.if_icmp .ge 46, 3) := dd_all DL_home_40_ok 6 rfl
theorem dL_home_79 : decode cL_home 79 = .ok (.iload_n 2, 1) := dd_all DL_home_40_ok 7 rfl
theorem dL_home_80 : decode cL_home 80 = .ok (.ifCond .eq 17, 3) := dd_all DL_home_40_ok 8 rfl
theorem dL_home_83 : decode cL_home 83 = .ok (.aload_n 1, 1) := dd_all DL_home_40_ok 9 rfl
theorem dL_home_84 : decode cL_home 84 = .ok (.iload 6, 2) := dd_all DL_home_40_ok 10 rfl
theorem dL_home_86 : decode cL_home 86 = .ok (.laload, 1) := dd_all DL_home_40_ok 11 rfl
theorem dL_home_87 : decode cL_home 87 = .ok (.invokestatic 17, 3) := dd_all DL_home_40_ok 12 rfl
theorem dL_home_90 : decode cL_home 90 = .ok (.iconst 4, 1) := dd_all DL_home_40_ok 13 rfl
theorem dL_home_91 : decode cL_home 91 = .ok (.if_icmp .ne 31, 3) := dd_all DL_home_40_ok 14 rfl
theorem dL_home_94 : decode cL_home 94 = .ok (.goto 13, 3) := dd_all DL_home_40_ok 15 rfl
theorem dL_home_97 : decode cL_home 97 = .ok (.aload_n 1, 1) := dd_all DL_home_40_ok 16 rfl
theorem dL_home_98 : decode cL_home 98 = .ok (.iload 6, 2) := dd_all DL_home_40_ok 17 rfl
theorem dL_home_100 : decode cL_home 100 = .ok (.laload, 1) := dd_all DL_home_40_ok 18 rfl
theorem dL_home_101 : decode cL_home 101 = .ok (.invokestatic 21, 3) := dd_all DL_home_40_ok 19 rfl
theorem dL_home_104 : decode cL_home 104 = .ok (.ifCond .eq 18, 3) := dd_all DL_home_40_ok 20 rfl
theorem dL_home_107 : decode cL_home 107 = .ok (.lload 7, 2) := dd_all DL_home_40_ok 21 rfl
theorem dL_home_109 : decode cL_home 109 = .ok (.lload 4, 2) := dd_all DL_home_40_ok 22 rfl
theorem dL_home_111 : decode cL_home 111 = .ok (.lcmp, 1) := dd_all DL_home_40_ok 23 rfl
theorem dL_home_112 : decode cL_home 112 = .ok (.ifCond .ge 10, 3) := dd_all DL_home_40_ok 24 rfl
theorem dL_home_115 : decode cL_home 115 = .ok (.iload 6, 2) := dd_all DL_home_40_ok 25 rfl
theorem dL_home_117 : decode cL_home 117 = .ok (.istore_n 3, 1) := dd_all DL_home_40_ok 26 rfl
theorem dL_home_118 : decode cL_home 118 = .ok (.lload 7, 2) := dd_all DL_home_40_ok 27 rfl
theorem dL_home_120 : decode cL_home 120 = .ok (.lstore 4, 2) := dd_all DL_home_40_ok 28 rfl
theorem dL_home_122 : decode cL_home 122 = .ok (.iinc 6 1, 3) := dd_all DL_home_40_ok 29 rfl
theorem dL_home_125 : decode cL_home 125 = .ok (.goto (-99), 3) := dd_all DL_home_40_ok 30 rfl
theorem dL_home_128 : decode cL_home 128 = .ok (.iload_n 3, 1) := dd_all DL_home_40_ok 31 rfl
theorem dL_home_129 : decode cL_home 129 = .ok (.ireturn, 1) := dd_all DL_home_40_ok 32 rfl
def DL_share_0 : List (Nat × Instr × Nat) := [(0, .iload_n 0, 1), (1, .iload_n 1, 1), (2, .idiv, 1), (3, .iload_n 0, 1), (4, .iload_n 1, 1), (5, .irem, 1), (6, .ifCond .le 7, 3), (9, .iconst 1, 1), (10, .goto 4, 3), (13, .iconst 0, 1), (14, .iadd, 1), (15, .ireturn, 1)]
theorem DL_share_0_ok : ∀ q ∈ DL_share_0, decode cL_share q.1 = .ok (q.2.1, q.2.2) := by decide +kernel
theorem dL_share_0 : decode cL_share 0 = .ok (.iload_n 0, 1) := dd_all DL_share_0_ok 0 rfl
theorem dL_share_1 : decode cL_share 1 = .ok (.iload_n 1, 1) := dd_all DL_share_0_ok 1 rfl
theorem dL_share_2 : decode cL_share 2 = .ok (.idiv, 1) := dd_all DL_share_0_ok 2 rfl
theorem dL_share_3 : decode cL_share 3 = .ok (.iload_n 0, 1) := dd_all DL_share_0_ok 3 rfl
theorem dL_share_4 : decode cL_share 4 = .ok (.iload_n 1, 1) := dd_all DL_share_0_ok 4 rfl
theorem dL_share_5 : decode cL_share 5 = .ok (.irem, 1) := dd_all DL_share_0_ok 5 rfl
theorem dL_share_6 : decode cL_share 6 = .ok (.ifCond .le 7, 3) := dd_all DL_share_0_ok 6 rfl
theorem dL_share_9 : decode cL_share 9 = .ok (.iconst 1, 1) := dd_all DL_share_0_ok 7 rfl
theorem dL_share_10 : decode cL_share 10 = .ok (.goto 4, 3) := dd_all DL_share_0_ok 8 rfl
theorem dL_share_13 : decode cL_share 13 = .ok (.iconst 0, 1) := dd_all DL_share_0_ok 9 rfl
theorem dL_share_14 : decode cL_share 14 = .ok (.iadd, 1) := dd_all DL_share_0_ok 10 rfl
theorem dL_share_15 : decode cL_share 15 = .ok (.ireturn, 1) := dd_all DL_share_0_ok 11 rfl
def DL_moves_0 : List (Nat × Instr × Nat) := [(0, .aload_n 0, 1), (1, .iload_n 1, 1), (2, .laload, 1), (3, .iconst 0, 1), (4, .iconst 2, 1), (5, .invokestatic 11, 3), (8, .istore_n 2, 1), (9, .bipush 8, 2), (11, .aload_n 0, 1), (12, .iload_n 1, 1), (13, .laload, 1), (14, .bipush 9, 2), (16, .bipush 7, 2), (18, .invokestatic 11, 3), (21, .imul, 1), (22, .istore_n 3, 1), (23, .iload_n 3, 1), (24, .iload_n 2, 1), (25, .bipush 6, 2), (27, .iadd, 1), (28, .imul, 1), (29, .bipush 10, 2), (31, .idiv, 1), (32, .istore 4, 2), (34, .aload_n 0, 1), (35, .iload_n 1, 1), (36, .laload, 1), (37, .invokestatic 29, 3), (40, .istore 5, 2), (42, .aload_n 0, 1), (43, .iload_n 1, 1), (44, .laload, 1), (45, .invokestatic 17, 3), (48, .istore 6, 2), (50, .iload 6, 2), (52, .iconst 1, 1), (53, .if_icmp .ne 63, 3), (56, .iload 5, 2), (58, .iload_n 3, 1), (59, .iload_n 2, 1)]
theorem DL_moves_0_ok : ∀ q ∈ DL_moves_0, decode cL_moves q.1 = .ok (q.2.1, q.2.2) := by decide +kernel
theorem dL_moves_0 : decode cL_moves 0 = .ok (.aload_n 0, 1) := dd_all DL_moves_0_ok 0 rfl
theorem dL_moves_1 : decode cL_moves 1 = .ok (.iload_n 1, 1) := dd_all DL_moves_0_ok 1 rfl
theorem dL_moves_2 : decode cL_moves 2 = .ok (.laload, 1) := dd_all DL_moves_0_ok 2 rfl
theorem dL_moves_3 : decode cL_moves 3 = .ok (.iconst 0, 1) := dd_all DL_moves_0_ok 3 rfl
theorem dL_moves_4 : decode cL_moves 4 = .ok (.iconst 2, 1) := dd_all DL_moves_0_ok 4 rfl
theorem dL_moves_5 : decode cL_moves 5 = .ok (.invokestatic 11, 3) := dd_all DL_moves_0_ok 5 rfl
theorem dL_moves_8 : decode cL_moves 8 = .ok (.istore_n 2, 1) := dd_all DL_moves_0_ok 6 rfl
theorem dL_moves_9 : decode cL_moves 9 = .ok (.bipush 8, 2) := dd_all DL_moves_0_ok 7 rfl
theorem dL_moves_11 : decode cL_moves 11 = .ok (.aload_n 0, 1) := dd_all DL_moves_0_ok 8 rfl
theorem dL_moves_12 : decode cL_moves 12 = .ok (.iload_n 1, 1) := dd_all DL_moves_0_ok 9 rfl
theorem dL_moves_13 : decode cL_moves 13 = .ok (.laload, 1) := dd_all DL_moves_0_ok 10 rfl
theorem dL_moves_14 : decode cL_moves 14 = .ok (.bipush 9, 2) := dd_all DL_moves_0_ok 11 rfl
theorem dL_moves_16 : decode cL_moves 16 = .ok (.bipush 7, 2) := dd_all DL_moves_0_ok 12 rfl
theorem dL_moves_18 : decode cL_moves 18 = .ok (.invokestatic 11, 3) := dd_all DL_moves_0_ok 13 rfl
theorem dL_moves_21 : decode cL_moves 21 = .ok (.imul, 1) := dd_all DL_moves_0_ok 14 rfl
theorem dL_moves_22 : decode cL_moves 22 = .ok (.istore_n 3, 1) := dd_all DL_moves_0_ok 15 rfl
theorem dL_moves_23 : decode cL_moves 23 = .ok (.iload_n 3, 1) := dd_all DL_moves_0_ok 16 rfl
theorem dL_moves_24 : decode cL_moves 24 = .ok (.iload_n 2, 1) := dd_all DL_moves_0_ok 17 rfl
theorem dL_moves_25 : decode cL_moves 25 = .ok (.bipush 6, 2) := dd_all DL_moves_0_ok 18 rfl
theorem dL_moves_27 : decode cL_moves 27 = .ok (.iadd, 1) := dd_all DL_moves_0_ok 19 rfl
theorem dL_moves_28 : decode cL_moves 28 = .ok (.imul, 1) := dd_all DL_moves_0_ok 20 rfl
theorem dL_moves_29 : decode cL_moves 29 = .ok (.bipush 10, 2) := dd_all DL_moves_0_ok 21 rfl
theorem dL_moves_31 : decode cL_moves 31 = .ok (.idiv, 1) := dd_all DL_moves_0_ok 22 rfl
theorem dL_moves_32 : decode cL_moves 32 = .ok (.istore 4, 2) := dd_all DL_moves_0_ok 23 rfl
theorem dL_moves_34 : decode cL_moves 34 = .ok (.aload_n 0, 1) := dd_all DL_moves_0_ok 24 rfl
theorem dL_moves_35 : decode cL_moves 35 = .ok (.iload_n 1, 1) := dd_all DL_moves_0_ok 25 rfl
theorem dL_moves_36 : decode cL_moves 36 = .ok (.laload, 1) := dd_all DL_moves_0_ok 26 rfl
theorem dL_moves_37 : decode cL_moves 37 = .ok (.invokestatic 29, 3) := dd_all DL_moves_0_ok 27 rfl
theorem dL_moves_40 : decode cL_moves 40 = .ok (.istore 5, 2) := dd_all DL_moves_0_ok 28 rfl
theorem dL_moves_42 : decode cL_moves 42 = .ok (.aload_n 0, 1) := dd_all DL_moves_0_ok 29 rfl
theorem dL_moves_43 : decode cL_moves 43 = .ok (.iload_n 1, 1) := dd_all DL_moves_0_ok 30 rfl
theorem dL_moves_44 : decode cL_moves 44 = .ok (.laload, 1) := dd_all DL_moves_0_ok 31 rfl
theorem dL_moves_45 : decode cL_moves 45 = .ok (.invokestatic 17, 3) := dd_all DL_moves_0_ok 32 rfl
theorem dL_moves_48 : decode cL_moves 48 = .ok (.istore 6, 2) := dd_all DL_moves_0_ok 33 rfl
theorem dL_moves_50 : decode cL_moves 50 = .ok (.iload 6, 2) := dd_all DL_moves_0_ok 34 rfl
theorem dL_moves_52 : decode cL_moves 52 = .ok (.iconst 1, 1) := dd_all DL_moves_0_ok 35 rfl
theorem dL_moves_53 : decode cL_moves 53 = .ok (.if_icmp .ne 63, 3) := dd_all DL_moves_0_ok 36 rfl
theorem dL_moves_56 : decode cL_moves 56 = .ok (.iload 5, 2) := dd_all DL_moves_0_ok 37 rfl
theorem dL_moves_58 : decode cL_moves 58 = .ok (.iload_n 3, 1) := dd_all DL_moves_0_ok 38 rfl
theorem dL_moves_59 : decode cL_moves 59 = .ok (.iload_n 2, 1) := dd_all DL_moves_0_ok 39 rfl
def DL_moves_40 : List (Nat × Instr × Nat) := [(60, .ifCond .ne 7, 3), (63, .iconst 2, 1), (64, .goto 16, 3), (67, .iload_n 2, 1), (68, .iconst 3, 1), (69, .if_icmp .ne 8, 3), (72, .bipush 8, 2), (74, .goto 6, 3), (77, .iload_n 2, 1), (78, .iconst 3, 1), (79, .iadd, 1), (80, .invokestatic 42, 3), (83, .iadd, 1), (84, .istore 5, 2), (86, .iload 5, 2), (88, .iload_n 3, 1), (89, .if_icmp .ge 8, 3), (92, .iload 5, 2), (94, .goto 4, 3), (97, .iload_n 3, 1), (98, .istore 5, 2), (100, .iload 5, 2), (102, .iload_n 3, 1), (103, .if_icmp .ne 7, 3), (106, .iconst 2, 1), (107, .goto 4, 3), (110, .iconst 1, 1), (111, .istore 6, 2), (113, .goto 162, 3), (116, .iload 6, 2), (118, .iconst 2, 1), (119, .if_icmp .ne 79, 3), (122, .iload 5, 2), (124, .iload_n 3, 1), (125, .iload 4, 2), (127, .isub, 1), (128, .iload_n 2, 1), (129, .ifCond .ne 8, 3), (132, .bipush 10, 2), (134, .goto 25, 3)]
theorem DL_moves_40_ok : ∀ q ∈ DL_moves_40, decode cL_moves q.1 = .ok (q.2.1, q.2.2) := by decide +kernel
theorem dL_moves_60 : decode cL_moves 60 = .ok (.ifCond .ne 7, 3) := dd_all DL_moves_40_ok 0 rfl
theorem dL_moves_63 : decode cL_moves 63 = .ok (.iconst 2, 1) := dd_all DL_moves_40_ok 1 rfl
theorem dL_moves_64 : decode cL_moves 64 = .ok (.goto 16, 3) := dd_all DL_moves_40_ok 2 rfl
theorem dL_moves_67 : decode cL_moves 67 = .ok (.iload_n 2, 1) := dd_all DL_moves_40_ok 3 rfl
theorem dL_moves_68 : decode cL_moves 68 = .ok (.iconst 3, 1) := dd_all DL_moves_40_ok 4 rfl
theorem dL_moves_69 : decode cL_moves 69 = .ok (.if_icmp .ne 8, 3) := dd_all DL_moves_40_ok 5 rfl
theorem dL_moves_72 : decode cL_moves 72 = .ok (.bipush 8, 2) := dd_all DL_moves_40_ok 6 rfl
theorem dL_moves_74 : decode cL_moves 74 = .ok (.goto 6, 3) := dd_all DL_moves_40_ok 7 rfl
theorem dL_moves_77 : decode cL_moves 77 = .ok (.iload_n 2, 1) := dd_all DL_moves_40_ok 8 rfl
theorem dL_moves_78 : decode cL_moves 78 = .ok (.iconst 3, 1) := dd_all DL_moves_40_ok 9 rfl
theorem dL_moves_79 : decode cL_moves 79 = .ok (.iadd, 1) := dd_all DL_moves_40_ok 10 rfl
theorem dL_moves_80 : decode cL_moves 80 = .ok (.invokestatic 42, 3) := dd_all DL_moves_40_ok 11 rfl
theorem dL_moves_83 : decode cL_moves 83 = .ok (.iadd, 1) := dd_all DL_moves_40_ok 12 rfl
theorem dL_moves_84 : decode cL_moves 84 = .ok (.istore 5, 2) := dd_all DL_moves_40_ok 13 rfl
theorem dL_moves_86 : decode cL_moves 86 = .ok (.iload 5, 2) := dd_all DL_moves_40_ok 14 rfl
theorem dL_moves_88 : decode cL_moves 88 = .ok (.iload_n 3, 1) := dd_all DL_moves_40_ok 15 rfl
theorem dL_moves_89 : decode cL_moves 89 = .ok (.if_icmp .ge 8, 3) := dd_all DL_moves_40_ok 16 rfl
theorem dL_moves_92 : decode cL_moves 92 = .ok (.iload 5, 2) := dd_all DL_moves_40_ok 17 rfl
theorem dL_moves_94 : decode cL_moves 94 = .ok (.goto 4, 3) := dd_all DL_moves_40_ok 18 rfl
theorem dL_moves_97 : decode cL_moves 97 = .ok (.iload_n 3, 1) := dd_all DL_moves_40_ok 19 rfl
theorem dL_moves_98 : decode cL_moves 98 = .ok (.istore 5, 2) := dd_all DL_moves_40_ok 20 rfl
theorem dL_moves_100 : decode cL_moves 100 = .ok (.iload 5, 2) := dd_all DL_moves_40_ok 21 rfl
theorem dL_moves_102 : decode cL_moves 102 = .ok (.iload_n 3, 1) := dd_all DL_moves_40_ok 22 rfl
theorem dL_moves_103 : decode cL_moves 103 = .ok (.if_icmp .ne 7, 3) := dd_all DL_moves_40_ok 23 rfl
theorem dL_moves_106 : decode cL_moves 106 = .ok (.iconst 2, 1) := dd_all DL_moves_40_ok 24 rfl
theorem dL_moves_107 : decode cL_moves 107 = .ok (.goto 4, 3) := dd_all DL_moves_40_ok 25 rfl
theorem dL_moves_110 : decode cL_moves 110 = .ok (.iconst 1, 1) := dd_all DL_moves_40_ok 26 rfl
theorem dL_moves_111 : decode cL_moves 111 = .ok (.istore 6, 2) := dd_all DL_moves_40_ok 27 rfl
theorem dL_moves_113 : decode cL_moves 113 = .ok (.goto 162, 3) := dd_all DL_moves_40_ok 28 rfl
theorem dL_moves_116 : decode cL_moves 116 = .ok (.iload 6, 2) := dd_all DL_moves_40_ok 29 rfl
theorem dL_moves_118 : decode cL_moves 118 = .ok (.iconst 2, 1) := dd_all DL_moves_40_ok 30 rfl
theorem dL_moves_119 : decode cL_moves 119 = .ok (.if_icmp .ne 79, 3) := dd_all DL_moves_40_ok 31 rfl
theorem dL_moves_122 : decode cL_moves 122 = .ok (.iload 5, 2) := dd_all DL_moves_40_ok 32 rfl
theorem dL_moves_124 : decode cL_moves 124 = .ok (.iload_n 3, 1) := dd_all DL_moves_40_ok 33 rfl
theorem dL_moves_125 : decode cL_moves 125 = .ok (.iload 4, 2) := dd_all DL_moves_40_ok 34 rfl
theorem dL_moves_127 : decode cL_moves 127 = .ok (.isub, 1) := dd_all DL_moves_40_ok 35 rfl
theorem dL_moves_128 : decode cL_moves 128 = .ok (.iload_n 2, 1) := dd_all DL_moves_40_ok 36 rfl
theorem dL_moves_129 : decode cL_moves 129 = .ok (.ifCond .ne 8, 3) := dd_all DL_moves_40_ok 37 rfl
theorem dL_moves_132 : decode cL_moves 132 = .ok (.bipush 10, 2) := dd_all DL_moves_40_ok 38 rfl
theorem dL_moves_134 : decode cL_moves 134 = .ok (.goto 25, 3) := dd_all DL_moves_40_ok 39 rfl
def DL_moves_80 : List (Nat × Instr × Nat) := [(137, .iload_n 2, 1), (138, .iconst 1, 1), (139, .if_icmp .ne 8, 3), (142, .bipush 8, 2), (144, .goto 15, 3), (147, .iload_n 2, 1), (148, .iconst 2, 1), (149, .if_icmp .ne 8, 3), (152, .bipush 12, 2), (154, .goto 5, 3), (157, .bipush 6, 2), (159, .invokestatic 42, 3), (162, .isub, 1), (163, .istore 5, 2), (165, .iload 5, 2), (167, .iload 4, 2), (169, .if_icmp .le 8, 3), (172, .iload 5, 2), (174, .goto 5, 3), (177, .iload 4, 2), (179, .istore 5, 2), (181, .iload 5, 2), (183, .iload 4, 2), (185, .if_icmp .ne 7, 3), (188, .iconst 3, 1), (189, .goto 4, 3), (192, .iconst 2, 1), (193, .istore 6, 2), (195, .goto 80, 3), (198, .iload 6, 2), (200, .iconst 3, 1), (201, .if_icmp .le 74, 3), (204, .iload 5, 2), (206, .aload_n 0, 1), (207, .iload_n 1, 1), (208, .laload, 1), (209, .bipush 30, 2), (211, .bipush 11, 2), (213, .invokestatic 11, 3), (216, .iload 6, 2)]
theorem DL_moves_80_ok : ∀ q ∈ DL_moves_80, decode cL_moves q.1 = .ok (q.2.1, q.2.2) := by decide +kernel
theorem dL_moves_137 : decode cL_moves 137 = .ok (.iload_n 2, 1) := dd_all DL_moves_80_ok 0 rfl
theorem dL_moves_138 : decode cL_moves 138 = .ok (.iconst 1, 1) := dd_all DL_moves_80_ok 1 rfl
theorem dL_moves_139 : decode cL_moves 139 = .ok (.if_icmp .ne 8, 3) := dd_all DL_moves_80_ok 2 rfl
theorem dL_moves_142 : decode cL_moves 142 = .ok (.bipush 8, 2) := dd_all DL_moves_80_ok 3 rfl
theorem dL_moves_144 : decode cL_moves 144 = .ok (.goto 15, 3) := dd_all DL_moves_80_ok 4 rfl
theorem dL_moves_147 : decode cL_moves 147 = .ok (.iload_n 2, 1) := dd_all DL_moves_80_ok 5 rfl
theorem dL_moves_148 : decode cL_moves 148 = .ok (.iconst 2, 1) := dd_all DL_moves_80_ok 6 rfl
theorem dL_moves_149 : decode cL_moves 149 = .ok (.if_icmp .ne 8, 3) := dd_all DL_moves_80_ok 7 rfl
theorem dL_moves_152 : decode cL_moves 152 = .ok (.bipush 12, 2) := dd_all DL_moves_80_ok 8 rfl
theorem dL_moves_154 : decode cL_moves 154 = .ok (.goto 5, 3) := dd_all DL_moves_80_ok 9 rfl
theorem dL_moves_157 : decode cL_moves 157 = .ok (.bipush 6, 2) := dd_all DL_moves_80_ok 10 rfl
theorem dL_moves_159 : decode cL_moves 159 = .ok (.invokestatic 42, 3) := dd_all DL_moves_80_ok 11 rfl
theorem dL_moves_162 : decode cL_moves 162 = .ok (.isub, 1) := dd_all DL_moves_80_ok 12 rfl
theorem dL_moves_163 : decode cL_moves 163 = .ok (.istore 5, 2) := dd_all DL_moves_80_ok 13 rfl
theorem dL_moves_165 : decode cL_moves 165 = .ok (.iload 5, 2) := dd_all DL_moves_80_ok 14 rfl
theorem dL_moves_167 : decode cL_moves 167 = .ok (.iload 4, 2) := dd_all DL_moves_80_ok 15 rfl
theorem dL_moves_169 : decode cL_moves 169 = .ok (.if_icmp .le 8, 3) := dd_all DL_moves_80_ok 16 rfl
theorem dL_moves_172 : decode cL_moves 172 = .ok (.iload 5, 2) := dd_all DL_moves_80_ok 17 rfl
theorem dL_moves_174 : decode cL_moves 174 = .ok (.goto 5, 3) := dd_all DL_moves_80_ok 18 rfl
theorem dL_moves_177 : decode cL_moves 177 = .ok (.iload 4, 2) := dd_all DL_moves_80_ok 19 rfl
theorem dL_moves_179 : decode cL_moves 179 = .ok (.istore 5, 2) := dd_all DL_moves_80_ok 20 rfl
theorem dL_moves_181 : decode cL_moves 181 = .ok (.iload 5, 2) := dd_all DL_moves_80_ok 21 rfl
theorem dL_moves_183 : decode cL_moves 183 = .ok (.iload 4, 2) := dd_all DL_moves_80_ok 22 rfl
theorem dL_moves_185 : decode cL_moves 185 = .ok (.if_icmp .ne 7, 3) := dd_all DL_moves_80_ok 23 rfl
theorem dL_moves_188 : decode cL_moves 188 = .ok (.iconst 3, 1) := dd_all DL_moves_80_ok 24 rfl
theorem dL_moves_189 : decode cL_moves 189 = .ok (.goto 4, 3) := dd_all DL_moves_80_ok 25 rfl
theorem dL_moves_192 : decode cL_moves 192 = .ok (.iconst 2, 1) := dd_all DL_moves_80_ok 26 rfl
theorem dL_moves_193 : decode cL_moves 193 = .ok (.istore 6, 2) := dd_all DL_moves_80_ok 27 rfl
theorem dL_moves_195 : decode cL_moves 195 = .ok (.goto 80, 3) := dd_all DL_moves_80_ok 28 rfl
theorem dL_moves_198 : decode cL_moves 198 = .ok (.iload 6, 2) := dd_all DL_moves_80_ok 29 rfl
theorem dL_moves_200 : decode cL_moves 200 = .ok (.iconst 3, 1) := dd_all DL_moves_80_ok 30 rfl
theorem dL_moves_201 : decode cL_moves 201 = .ok (.if_icmp .le 74, 3) := dd_all DL_moves_80_ok 31 rfl
theorem dL_moves_204 : decode cL_moves 204 = .ok (.iload 5, 2) := dd_all DL_moves_80_ok 32 rfl
theorem dL_moves_206 : decode cL_moves 206 = .ok (.aload_n 0, 1) := dd_all DL_moves_80_ok 33 rfl
theorem dL_moves_207 : decode cL_moves 207 = .ok (.iload_n 1, 1) := dd_all DL_moves_80_ok 34 rfl
theorem dL_moves_208 : decode cL_moves 208 = .ok (.laload, 1) := dd_all DL_moves_80_ok 35 rfl
theorem dL_moves_209 : decode cL_moves 209 = .ok (.bipush 30, 2) := dd_all DL_moves_80_ok 36 rfl
theorem dL_moves_211 : decode cL_moves 211 = .ok (.bipush 11, 2) := dd_all DL_moves_80_ok 37 rfl
theorem dL_moves_213 : decode cL_moves 213 = .ok (.invokestatic 11, 3) := dd_all DL_moves_80_ok 38 rfl
theorem dL_moves_216 : decode cL_moves 216 = .ok (.iload 6, 2) := dd_all DL_moves_80_ok 39 rfl
def DL_moves_120 : List (Nat × Instr × Nat) := [(218, .iconst 5, 1), (219, .if_icmp .ne 7, 3), (222, .iconst 3, 1), (223, .goto 19, 3), (226, .iload_n 2, 1), (227, .iconst 3, 1), (228, .if_icmp .ge 12, 3), (231, .bipush 6, 2), (233, .iconst 2, 1), (234, .iload_n 2, 1), (235, .imul, 1), (236, .iadd, 1), (237, .goto 5, 3), (240, .bipush 16, 2), (242, .invokestatic 42, 3), (245, .isub, 1), (246, .istore 5, 2), (248, .iload 5, 2), (250, .ifCond .le 8, 3), (253, .iload 5, 2), (255, .goto 4, 3), (258, .iconst 0, 1), (259, .istore 5, 2), (261, .iload 5, 2), (263, .ifCond .ne 8, 3), (266, .bipush 6, 2), (268, .goto 5, 3), (271, .iload 6, 2), (273, .istore 6, 2), (275, .aload_n 0, 1), (276, .iload_n 1, 1), (277, .aload_n 0, 1), (278, .iload_n 1, 1), (279, .laload, 1), (280, .bipush 16, 2), (282, .iconst 3, 1), (283, .iload 6, 2), (285, .invokestatic 25, 3), (288, .bipush 19, 2), (290, .bipush 11, 2)]
theorem DL_moves_120_ok : ∀ q ∈ DL_moves_120, decode cL_moves q.1 = .ok (q.2.1, q.2.2) := by decide +kernel
theorem dL_moves_218 : decode cL_moves 218 = .ok (.iconst 5, 1) := dd_all DL_moves_120_ok 0 rfl
theorem dL_moves_219 : decode cL_moves 219 = .ok (.if_icmp .ne 7, 3) := dd_all DL_moves_120_ok 1 rfl
theorem dL_moves_222 : decode cL_moves 222 = .ok (.iconst 3, 1) := dd_all DL_moves_120_ok 2 rfl
theorem dL_moves_223 : decode cL_moves 223 = .ok (.goto 19, 3) := dd_all DL_moves_120_ok 3 rfl
theorem dL_moves_226 : decode cL_moves 226 = .ok (.iload_n 2, 1) := dd_all DL_moves_120_ok 4 rfl
theorem dL_moves_227 : decode cL_moves 227 = .ok (.iconst 3, 1) := dd_all DL_moves_120_ok 5 rfl
theorem dL_moves_228 : decode cL_moves 228 = .ok (.if_icmp .ge 12, 3) := dd_all DL_moves_120_ok 6 rfl
theorem dL_moves_231 : decode cL_moves 231 = .ok (.bipush 6, 2) := dd_all DL_moves_120_ok 7 rfl
theorem dL_moves_233 : decode cL_moves 233 = .ok (.iconst 2, 1) := dd_all DL_moves_120_ok 8 rfl
theorem dL_moves_234 : decode cL_moves 234 = .ok (.iload_n 2, 1) := dd_all DL_moves_120_ok 9 rfl
theorem dL_moves_235 : decode cL_moves 235 = .ok (.imul, 1) := dd_all DL_moves_120_ok 10 rfl
theorem dL_moves_236 : decode cL_moves 236 = .ok (.iadd, 1) := dd_all DL_moves_120_ok 11 rfl
theorem dL_moves_237 : decode cL_moves 237 = .ok (.goto 5, 3) := dd_all DL_moves_120_ok 12 rfl
theorem dL_moves_240 : decode cL_moves 240 = .ok (.bipush 16, 2) := dd_all DL_moves_120_ok 13 rfl
theorem dL_moves_242 : decode cL_moves 242 = .ok (.invokestatic 42, 3) := dd_all DL_moves_120_ok 14 rfl
theorem dL_moves_245 : decode cL_moves 245 = .ok (.isub, 1) := dd_all DL_moves_120_ok 15 rfl
theorem dL_moves_246 : decode cL_moves 246 = .ok (.istore 5, 2) := dd_all DL_moves_120_ok 16 rfl
theorem dL_moves_248 : decode cL_moves 248 = .ok (.iload 5, 2) := dd_all DL_moves_120_ok 17 rfl
theorem dL_moves_250 : decode cL_moves 250 = .ok (.ifCond .le 8, 3) := dd_all DL_moves_120_ok 18 rfl
theorem dL_moves_253 : decode cL_moves 253 = .ok (.iload 5, 2) := dd_all DL_moves_120_ok 19 rfl
theorem dL_moves_255 : decode cL_moves 255 = .ok (.goto 4, 3) := dd_all DL_moves_120_ok 20 rfl
theorem dL_moves_258 : decode cL_moves 258 = .ok (.iconst 0, 1) := dd_all DL_moves_120_ok 21 rfl
theorem dL_moves_259 : decode cL_moves 259 = .ok (.istore 5, 2) := dd_all DL_moves_120_ok 22 rfl
theorem dL_moves_261 : decode cL_moves 261 = .ok (.iload 5, 2) := dd_all DL_moves_120_ok 23 rfl
theorem dL_moves_263 : decode cL_moves 263 = .ok (.ifCond .ne 8, 3) := dd_all DL_moves_120_ok 24 rfl
theorem dL_moves_266 : decode cL_moves 266 = .ok (.bipush 6, 2) := dd_all DL_moves_120_ok 25 rfl
theorem dL_moves_268 : decode cL_moves 268 = .ok (.goto 5, 3) := dd_all DL_moves_120_ok 26 rfl
theorem dL_moves_271 : decode cL_moves 271 = .ok (.iload 6, 2) := dd_all DL_moves_120_ok 27 rfl
theorem dL_moves_273 : decode cL_moves 273 = .ok (.istore 6, 2) := dd_all DL_moves_120_ok 28 rfl
theorem dL_moves_275 : decode cL_moves 275 = .ok (.aload_n 0, 1) := dd_all DL_moves_120_ok 29 rfl
theorem dL_moves_276 : decode cL_moves 276 = .ok (.iload_n 1, 1) := dd_all DL_moves_120_ok 30 rfl
theorem dL_moves_277 : decode cL_moves 277 = .ok (.aload_n 0, 1) := dd_all DL_moves_120_ok 31 rfl
theorem dL_moves_278 : decode cL_moves 278 = .ok (.iload_n 1, 1) := dd_all DL_moves_120_ok 32 rfl
theorem dL_moves_279 : decode cL_moves 279 = .ok (.laload, 1) := dd_all DL_moves_120_ok 33 rfl
theorem dL_moves_280 : decode cL_moves 280 = .ok (.bipush 16, 2) := dd_all DL_moves_120_ok 34 rfl
theorem dL_moves_282 : decode cL_moves 282 = .ok (.iconst 3, 1) := dd_all DL_moves_120_ok 35 rfl
theorem dL_moves_283 : decode cL_moves 283 = .ok (.iload 6, 2) := dd_all DL_moves_120_ok 36 rfl
theorem dL_moves_285 : decode cL_moves 285 = .ok (.invokestatic 25, 3) := dd_all DL_moves_120_ok 37 rfl
theorem dL_moves_288 : decode cL_moves 288 = .ok (.bipush 19, 2) := dd_all DL_moves_120_ok 38 rfl
theorem dL_moves_290 : decode cL_moves 290 = .ok (.bipush 11, 2) := dd_all DL_moves_120_ok 39 rfl
def DL_moves_160 : List (Nat × Instr × Nat) := [(292, .iload 5, 2), (294, .invokestatic 25, 3), (297, .lastore, 1), (298, .return_, 1)]
theorem DL_moves_160_ok : ∀ q ∈ DL_moves_160, decode cL_moves q.1 = .ok (q.2.1, q.2.2) := by decide +kernel
theorem dL_moves_292 : decode cL_moves 292 = .ok (.iload 5, 2) := dd_all DL_moves_160_ok 0 rfl
theorem dL_moves_294 : decode cL_moves 294 = .ok (.invokestatic 25, 3) := dd_all DL_moves_160_ok 1 rfl
theorem dL_moves_297 : decode cL_moves 297 = .ok (.lastore, 1) := dd_all DL_moves_160_ok 2 rfl
theorem dL_moves_298 : decode cL_moves 298 = .ok (.return_, 1) := dd_all DL_moves_160_ok 3 rfl
def DL_tick_0 : List (Nat × Instr × Nat) := [(0, .aload_n 0, 1), (1, .iconst 1, 1), (2, .dup2, 1), (3, .iaload, 1), (4, .iconst 1, 1), (5, .iadd, 1), (6, .iastore, 1), (7, .iconst 0, 1), (8, .istore_n 2, 1), (9, .iload_n 2, 1), (10, .aload_n 0, 1), (11, .iconst 0, 1), (12, .iaload, 1), (13, .if_icmp .ge 34, 3), (16, .aload_n 1, 1), (17, .iload_n 2, 1), (18, .laload, 1), (19, .invokestatic 17, 3), (22, .ifCond .le 19, 3), (25, .aload_n 1, 1), (26, .iload_n 2, 1), (27, .laload, 1), (28, .invokestatic 17, 3), (31, .bipush 6, 2), (33, .if_icmp .ge 8, 3), (36, .aload_n 1, 1), (37, .iload_n 2, 1), (38, .invokestatic 46, 3), (41, .iinc 2 1, 3), (44, .goto (-35), 3), (47, .iconst 0, 1), (48, .istore_n 2, 1), (49, .iload_n 2, 1), (50, .aload_n 0, 1), (51, .iconst 0, 1), (52, .iaload, 1), (53, .if_icmp .ge 113, 3), (56, .aload_n 1, 1), (57, .iload_n 2, 1), (58, .laload, 1)]
theorem DL_tick_0_ok : ∀ q ∈ DL_tick_0, decode cL_tick q.1 = .ok (q.2.1, q.2.2) := by decide +kernel
theorem dL_tick_0 : decode cL_tick 0 = .ok (.aload_n 0, 1) := dd_all DL_tick_0_ok 0 rfl
theorem dL_tick_1 : decode cL_tick 1 = .ok (.iconst 1, 1) := dd_all DL_tick_0_ok 1 rfl
theorem dL_tick_2 : decode cL_tick 2 = .ok (.dup2, 1) := dd_all DL_tick_0_ok 2 rfl
theorem dL_tick_3 : decode cL_tick 3 = .ok (.iaload, 1) := dd_all DL_tick_0_ok 3 rfl
theorem dL_tick_4 : decode cL_tick 4 = .ok (.iconst 1, 1) := dd_all DL_tick_0_ok 4 rfl
theorem dL_tick_5 : decode cL_tick 5 = .ok (.iadd, 1) := dd_all DL_tick_0_ok 5 rfl
theorem dL_tick_6 : decode cL_tick 6 = .ok (.iastore, 1) := dd_all DL_tick_0_ok 6 rfl
theorem dL_tick_7 : decode cL_tick 7 = .ok (.iconst 0, 1) := dd_all DL_tick_0_ok 7 rfl
theorem dL_tick_8 : decode cL_tick 8 = .ok (.istore_n 2, 1) := dd_all DL_tick_0_ok 8 rfl
theorem dL_tick_9 : decode cL_tick 9 = .ok (.iload_n 2, 1) := dd_all DL_tick_0_ok 9 rfl
theorem dL_tick_10 : decode cL_tick 10 = .ok (.aload_n 0, 1) := dd_all DL_tick_0_ok 10 rfl
theorem dL_tick_11 : decode cL_tick 11 = .ok (.iconst 0, 1) := dd_all DL_tick_0_ok 11 rfl
theorem dL_tick_12 : decode cL_tick 12 = .ok (.iaload, 1) := dd_all DL_tick_0_ok 12 rfl
theorem dL_tick_13 : decode cL_tick 13 = .ok (.if_icmp .ge 34, 3) := dd_all DL_tick_0_ok 13 rfl
theorem dL_tick_16 : decode cL_tick 16 = .ok (.aload_n 1, 1) := dd_all DL_tick_0_ok 14 rfl
theorem dL_tick_17 : decode cL_tick 17 = .ok (.iload_n 2, 1) := dd_all DL_tick_0_ok 15 rfl
theorem dL_tick_18 : decode cL_tick 18 = .ok (.laload, 1) := dd_all DL_tick_0_ok 16 rfl
theorem dL_tick_19 : decode cL_tick 19 = .ok (.invokestatic 17, 3) := dd_all DL_tick_0_ok 17 rfl
theorem dL_tick_22 : decode cL_tick 22 = .ok (.ifCond .le 19, 3) := dd_all DL_tick_0_ok 18 rfl
theorem dL_tick_25 : decode cL_tick 25 = .ok (.aload_n 1, 1) := dd_all DL_tick_0_ok 19 rfl
theorem dL_tick_26 : decode cL_tick 26 = .ok (.iload_n 2, 1) := dd_all DL_tick_0_ok 20 rfl
theorem dL_tick_27 : decode cL_tick 27 = .ok (.laload, 1) := dd_all DL_tick_0_ok 21 rfl
theorem dL_tick_28 : decode cL_tick 28 = .ok (.invokestatic 17, 3) := dd_all DL_tick_0_ok 22 rfl
theorem dL_tick_31 : decode cL_tick 31 = .ok (.bipush 6, 2) := dd_all DL_tick_0_ok 23 rfl
theorem dL_tick_33 : decode cL_tick 33 = .ok (.if_icmp .ge 8, 3) := dd_all DL_tick_0_ok 24 rfl
theorem dL_tick_36 : decode cL_tick 36 = .ok (.aload_n 1, 1) := dd_all DL_tick_0_ok 25 rfl
theorem dL_tick_37 : decode cL_tick 37 = .ok (.iload_n 2, 1) := dd_all DL_tick_0_ok 26 rfl
theorem dL_tick_38 : decode cL_tick 38 = .ok (.invokestatic 46, 3) := dd_all DL_tick_0_ok 27 rfl
theorem dL_tick_41 : decode cL_tick 41 = .ok (.iinc 2 1, 3) := dd_all DL_tick_0_ok 28 rfl
theorem dL_tick_44 : decode cL_tick 44 = .ok (.goto (-35), 3) := dd_all DL_tick_0_ok 29 rfl
theorem dL_tick_47 : decode cL_tick 47 = .ok (.iconst 0, 1) := dd_all DL_tick_0_ok 30 rfl
theorem dL_tick_48 : decode cL_tick 48 = .ok (.istore_n 2, 1) := dd_all DL_tick_0_ok 31 rfl
theorem dL_tick_49 : decode cL_tick 49 = .ok (.iload_n 2, 1) := dd_all DL_tick_0_ok 32 rfl
theorem dL_tick_50 : decode cL_tick 50 = .ok (.aload_n 0, 1) := dd_all DL_tick_0_ok 33 rfl
theorem dL_tick_51 : decode cL_tick 51 = .ok (.iconst 0, 1) := dd_all DL_tick_0_ok 34 rfl
theorem dL_tick_52 : decode cL_tick 52 = .ok (.iaload, 1) := dd_all DL_tick_0_ok 35 rfl
theorem dL_tick_53 : decode cL_tick 53 = .ok (.if_icmp .ge 113, 3) := dd_all DL_tick_0_ok 36 rfl
theorem dL_tick_56 : decode cL_tick 56 = .ok (.aload_n 1, 1) := dd_all DL_tick_0_ok 37 rfl
theorem dL_tick_57 : decode cL_tick 57 = .ok (.iload_n 2, 1) := dd_all DL_tick_0_ok 38 rfl
theorem dL_tick_58 : decode cL_tick 58 = .ok (.laload, 1) := dd_all DL_tick_0_ok 39 rfl
def DL_tick_40 : List (Nat × Instr × Nat) := [(59, .invokestatic 17, 3), (62, .ifCond .ne 98, 3), (65, .aload_n 0, 1), (66, .aload_n 1, 1), (67, .aload_n 1, 1), (68, .iload_n 2, 1), (69, .laload, 1), (70, .iconst 0, 1), (71, .iconst 2, 1), (72, .invokestatic 11, 3), (75, .aload_n 1, 1), (76, .iload_n 2, 1), (77, .laload, 1), (78, .iconst 2, 1), (79, .bipush 7, 2), (81, .invokestatic 11, 3), (84, .invokestatic 50, 3), (87, .istore_n 3, 1), (88, .iload_n 3, 1), (89, .ifCond .lt 36, 3), (92, .aload_n 1, 1), (93, .iload_n 2, 1), (94, .aload_n 1, 1), (95, .iload_n 2, 1), (96, .laload, 1), (97, .bipush 16, 2), (99, .iconst 3, 1), (100, .bipush 6, 2), (102, .invokestatic 25, 3), (105, .lastore, 1), (106, .aload_n 0, 1), (107, .aload_n 1, 1), (108, .iload_n 3, 1), (109, .aload_n 1, 1), (110, .iload_n 2, 1), (111, .laload, 1), (112, .bipush 9, 2), (114, .bipush 7, 2), (116, .invokestatic 11, 3), (119, .invokestatic 54, 3)]
theorem DL_tick_40_ok : ∀ q ∈ DL_tick_40, decode cL_tick q.1 = .ok (q.2.1, q.2.2) := by decide +kernel
theorem dL_tick_59 : decode cL_tick 59 = .ok (.invokestatic 17, 3) := dd_all DL_tick_40_ok 0 rfl
theorem dL_tick_62 : decode cL_tick 62 = .ok (.ifCond .ne 98, 3) := dd_all DL_tick_40_ok 1 rfl
theorem dL_tick_65 : decode cL_tick 65 = .ok (.aload_n 0, 1) := dd_all DL_tick_40_ok 2 rfl
theorem dL_tick_66 : decode cL_tick 66 = .ok (.aload_n 1, 1) := dd_all DL_tick_40_ok 3 rfl
theorem dL_tick_67 : decode cL_tick 67 = .ok (.aload_n 1, 1) := dd_all DL_tick_40_ok 4 rfl
theorem dL_tick_68 : decode cL_tick 68 = .ok (.iload_n 2, 1) := dd_all DL_tick_40_ok 5 rfl
theorem dL_tick_69 : decode cL_tick 69 = .ok (.laload, 1) := dd_all DL_tick_40_ok 6 rfl
theorem dL_tick_70 : decode cL_tick 70 = .ok (.iconst 0, 1) := dd_all DL_tick_40_ok 7 rfl
theorem dL_tick_71 : decode cL_tick 71 = .ok (.iconst 2, 1) := dd_all DL_tick_40_ok 8 rfl
theorem dL_tick_72 : decode cL_tick 72 = .ok (.invokestatic 11, 3) := dd_all DL_tick_40_ok 9 rfl
theorem dL_tick_75 : decode cL_tick 75 = .ok (.aload_n 1, 1) := dd_all DL_tick_40_ok 10 rfl
theorem dL_tick_76 : decode cL_tick 76 = .ok (.iload_n 2, 1) := dd_all DL_tick_40_ok 11 rfl
theorem dL_tick_77 : decode cL_tick 77 = .ok (.laload, 1) := dd_all DL_tick_40_ok 12 rfl
theorem dL_tick_78 : decode cL_tick 78 = .ok (.iconst 2, 1) := dd_all DL_tick_40_ok 13 rfl
theorem dL_tick_79 : decode cL_tick 79 = .ok (.bipush 7, 2) := dd_all DL_tick_40_ok 14 rfl
theorem dL_tick_81 : decode cL_tick 81 = .ok (.invokestatic 11, 3) := dd_all DL_tick_40_ok 15 rfl
theorem dL_tick_84 : decode cL_tick 84 = .ok (.invokestatic 50, 3) := dd_all DL_tick_40_ok 16 rfl
theorem dL_tick_87 : decode cL_tick 87 = .ok (.istore_n 3, 1) := dd_all DL_tick_40_ok 17 rfl
theorem dL_tick_88 : decode cL_tick 88 = .ok (.iload_n 3, 1) := dd_all DL_tick_40_ok 18 rfl
theorem dL_tick_89 : decode cL_tick 89 = .ok (.ifCond .lt 36, 3) := dd_all DL_tick_40_ok 19 rfl
theorem dL_tick_92 : decode cL_tick 92 = .ok (.aload_n 1, 1) := dd_all DL_tick_40_ok 20 rfl
theorem dL_tick_93 : decode cL_tick 93 = .ok (.iload_n 2, 1) := dd_all DL_tick_40_ok 21 rfl
theorem dL_tick_94 : decode cL_tick 94 = .ok (.aload_n 1, 1) := dd_all DL_tick_40_ok 22 rfl
theorem dL_tick_95 : decode cL_tick 95 = .ok (.iload_n 2, 1) := dd_all DL_tick_40_ok 23 rfl
theorem dL_tick_96 : decode cL_tick 96 = .ok (.laload, 1) := dd_all DL_tick_40_ok 24 rfl
theorem dL_tick_97 : decode cL_tick 97 = .ok (.bipush 16, 2) := dd_all DL_tick_40_ok 25 rfl
theorem dL_tick_99 : decode cL_tick 99 = .ok (.iconst 3, 1) := dd_all DL_tick_40_ok 26 rfl
theorem dL_tick_100 : decode cL_tick 100 = .ok (.bipush 6, 2) := dd_all DL_tick_40_ok 27 rfl
theorem dL_tick_102 : decode cL_tick 102 = .ok (.invokestatic 25, 3) := dd_all DL_tick_40_ok 28 rfl
theorem dL_tick_105 : decode cL_tick 105 = .ok (.lastore, 1) := dd_all DL_tick_40_ok 29 rfl
theorem dL_tick_106 : decode cL_tick 106 = .ok (.aload_n 0, 1) := dd_all DL_tick_40_ok 30 rfl
theorem dL_tick_107 : decode cL_tick 107 = .ok (.aload_n 1, 1) := dd_all DL_tick_40_ok 31 rfl
theorem dL_tick_108 : decode cL_tick 108 = .ok (.iload_n 3, 1) := dd_all DL_tick_40_ok 32 rfl
theorem dL_tick_109 : decode cL_tick 109 = .ok (.aload_n 1, 1) := dd_all DL_tick_40_ok 33 rfl
theorem dL_tick_110 : decode cL_tick 110 = .ok (.iload_n 2, 1) := dd_all DL_tick_40_ok 34 rfl
theorem dL_tick_111 : decode cL_tick 111 = .ok (.laload, 1) := dd_all DL_tick_40_ok 35 rfl
theorem dL_tick_112 : decode cL_tick 112 = .ok (.bipush 9, 2) := dd_all DL_tick_40_ok 36 rfl
theorem dL_tick_114 : decode cL_tick 114 = .ok (.bipush 7, 2) := dd_all DL_tick_40_ok 37 rfl
theorem dL_tick_116 : decode cL_tick 116 = .ok (.invokestatic 11, 3) := dd_all DL_tick_40_ok 38 rfl
theorem dL_tick_119 : decode cL_tick 119 = .ok (.invokestatic 54, 3) := dd_all DL_tick_40_ok 39 rfl
def DL_tick_80 : List (Nat × Instr × Nat) := [(122, .goto 38, 3), (125, .aload_n 0, 1), (126, .aload_n 1, 1), (127, .bipush 9, 2), (129, .invokestatic 36, 3), (132, .aload_n 0, 1), (133, .bipush 6, 2), (135, .iaload, 1), (136, .if_icmp .ge 23, 3), (139, .aload_n 0, 1), (140, .aload_n 1, 1), (141, .iload_n 2, 1), (142, .iconst 1, 1), (143, .aload_n 1, 1), (144, .iload_n 2, 1), (145, .laload, 1), (146, .bipush 9, 2), (148, .bipush 7, 2), (150, .invokestatic 11, 3), (153, .invokestatic 32, 3), (156, .goto 4, 3), (159, .return_, 1), (160, .iinc 2 1, 3), (163, .goto (-114), 3), (166, .return_, 1)]
theorem DL_tick_80_ok : ∀ q ∈ DL_tick_80, decode cL_tick q.1 = .ok (q.2.1, q.2.2) := by decide +kernel
theorem dL_tick_122 : decode cL_tick 122 = .ok (.goto 38, 3) := dd_all DL_tick_80_ok 0 rfl
theorem dL_tick_125 : decode cL_tick 125 = .ok (.aload_n 0, 1) := dd_all DL_tick_80_ok 1 rfl
theorem dL_tick_126 : decode cL_tick 126 = .ok (.aload_n 1, 1) := dd_all DL_tick_80_ok 2 rfl
theorem dL_tick_127 : decode cL_tick 127 = .ok (.bipush 9, 2) := dd_all DL_tick_80_ok 3 rfl
theorem dL_tick_129 : decode cL_tick 129 = .ok (.invokestatic 36, 3) := dd_all DL_tick_80_ok 4 rfl
theorem dL_tick_132 : decode cL_tick 132 = .ok (.aload_n 0, 1) := dd_all DL_tick_80_ok 5 rfl
theorem dL_tick_133 : decode cL_tick 133 = .ok (.bipush 6, 2) := dd_all DL_tick_80_ok 6 rfl
theorem dL_tick_135 : decode cL_tick 135 = .ok (.iaload, 1) := dd_all DL_tick_80_ok 7 rfl
theorem dL_tick_136 : decode cL_tick 136 = .ok (.if_icmp .ge 23, 3) := dd_all DL_tick_80_ok 8 rfl
theorem dL_tick_139 : decode cL_tick 139 = .ok (.aload_n 0, 1) := dd_all DL_tick_80_ok 9 rfl
theorem dL_tick_140 : decode cL_tick 140 = .ok (.aload_n 1, 1) := dd_all DL_tick_80_ok 10 rfl
theorem dL_tick_141 : decode cL_tick 141 = .ok (.iload_n 2, 1) := dd_all DL_tick_80_ok 11 rfl
theorem dL_tick_142 : decode cL_tick 142 = .ok (.iconst 1, 1) := dd_all DL_tick_80_ok 12 rfl
theorem dL_tick_143 : decode cL_tick 143 = .ok (.aload_n 1, 1) := dd_all DL_tick_80_ok 13 rfl
theorem dL_tick_144 : decode cL_tick 144 = .ok (.iload_n 2, 1) := dd_all DL_tick_80_ok 14 rfl
theorem dL_tick_145 : decode cL_tick 145 = .ok (.laload, 1) := dd_all DL_tick_80_ok 15 rfl
theorem dL_tick_146 : decode cL_tick 146 = .ok (.bipush 9, 2) := dd_all DL_tick_80_ok 16 rfl
theorem dL_tick_148 : decode cL_tick 148 = .ok (.bipush 7, 2) := dd_all DL_tick_80_ok 17 rfl
theorem dL_tick_150 : decode cL_tick 150 = .ok (.invokestatic 11, 3) := dd_all DL_tick_80_ok 18 rfl
theorem dL_tick_153 : decode cL_tick 153 = .ok (.invokestatic 32, 3) := dd_all DL_tick_80_ok 19 rfl
theorem dL_tick_156 : decode cL_tick 156 = .ok (.goto 4, 3) := dd_all DL_tick_80_ok 20 rfl
theorem dL_tick_159 : decode cL_tick 159 = .ok (.return_, 1) := dd_all DL_tick_80_ok 21 rfl
theorem dL_tick_160 : decode cL_tick 160 = .ok (.iinc 2 1, 3) := dd_all DL_tick_80_ok 22 rfl
theorem dL_tick_163 : decode cL_tick 163 = .ok (.goto (-114), 3) := dd_all DL_tick_80_ok 23 rfl
theorem dL_tick_166 : decode cL_tick 166 = .ok (.return_, 1) := dd_all DL_tick_80_ok 24 rfl
def DL_sum_0 : List (Nat × Instr × Nat) := [(0, .iconst 0, 1), (1, .istore_n 2, 1), (2, .iconst 0, 1), (3, .istore_n 3, 1), (4, .iload_n 3, 1), (5, .aload_n 0, 1), (6, .iconst 0, 1), (7, .iaload, 1), (8, .if_icmp .ge 42, 3), (11, .iload_n 2, 1), (12, .aload_n 1, 1), (13, .iload_n 3, 1), (14, .laload, 1), (15, .invokestatic 17, 3), (18, .ifCond .le 23, 3), (21, .aload_n 1, 1), (22, .iload_n 3, 1), (23, .laload, 1), (24, .invokestatic 17, 3), (27, .bipush 6, 2), (29, .if_icmp .ge 12, 3), (32, .aload_n 1, 1), (33, .iload_n 3, 1), (34, .laload, 1), (35, .invokestatic 29, 3), (38, .goto 4, 3), (41, .iconst 0, 1), (42, .iadd, 1), (43, .istore_n 2, 1), (44, .iinc 3 1, 3), (47, .goto (-43), 3), (50, .iload_n 2, 1), (51, .ireturn, 1)]
theorem DL_sum_0_ok : ∀ q ∈ DL_sum_0, decode cL_sum q.1 = .ok (q.2.1, q.2.2) := by decide +kernel
theorem dL_sum_0 : decode cL_sum 0 = .ok (.iconst 0, 1) := dd_all DL_sum_0_ok 0 rfl
theorem dL_sum_1 : decode cL_sum 1 = .ok (.istore_n 2, 1) := dd_all DL_sum_0_ok 1 rfl
theorem dL_sum_2 : decode cL_sum 2 = .ok (.iconst 0, 1) := dd_all DL_sum_0_ok 2 rfl
theorem dL_sum_3 : decode cL_sum 3 = .ok (.istore_n 3, 1) := dd_all DL_sum_0_ok 3 rfl
theorem dL_sum_4 : decode cL_sum 4 = .ok (.iload_n 3, 1) := dd_all DL_sum_0_ok 4 rfl
theorem dL_sum_5 : decode cL_sum 5 = .ok (.aload_n 0, 1) := dd_all DL_sum_0_ok 5 rfl
theorem dL_sum_6 : decode cL_sum 6 = .ok (.iconst 0, 1) := dd_all DL_sum_0_ok 6 rfl
theorem dL_sum_7 : decode cL_sum 7 = .ok (.iaload, 1) := dd_all DL_sum_0_ok 7 rfl
theorem dL_sum_8 : decode cL_sum 8 = .ok (.if_icmp .ge 42, 3) := dd_all DL_sum_0_ok 8 rfl
theorem dL_sum_11 : decode cL_sum 11 = .ok (.iload_n 2, 1) := dd_all DL_sum_0_ok 9 rfl
theorem dL_sum_12 : decode cL_sum 12 = .ok (.aload_n 1, 1) := dd_all DL_sum_0_ok 10 rfl
theorem dL_sum_13 : decode cL_sum 13 = .ok (.iload_n 3, 1) := dd_all DL_sum_0_ok 11 rfl
theorem dL_sum_14 : decode cL_sum 14 = .ok (.laload, 1) := dd_all DL_sum_0_ok 12 rfl
theorem dL_sum_15 : decode cL_sum 15 = .ok (.invokestatic 17, 3) := dd_all DL_sum_0_ok 13 rfl
theorem dL_sum_18 : decode cL_sum 18 = .ok (.ifCond .le 23, 3) := dd_all DL_sum_0_ok 14 rfl
theorem dL_sum_21 : decode cL_sum 21 = .ok (.aload_n 1, 1) := dd_all DL_sum_0_ok 15 rfl
theorem dL_sum_22 : decode cL_sum 22 = .ok (.iload_n 3, 1) := dd_all DL_sum_0_ok 16 rfl
theorem dL_sum_23 : decode cL_sum 23 = .ok (.laload, 1) := dd_all DL_sum_0_ok 17 rfl
theorem dL_sum_24 : decode cL_sum 24 = .ok (.invokestatic 17, 3) := dd_all DL_sum_0_ok 18 rfl
theorem dL_sum_27 : decode cL_sum 27 = .ok (.bipush 6, 2) := dd_all DL_sum_0_ok 19 rfl
theorem dL_sum_29 : decode cL_sum 29 = .ok (.if_icmp .ge 12, 3) := dd_all DL_sum_0_ok 20 rfl
theorem dL_sum_32 : decode cL_sum 32 = .ok (.aload_n 1, 1) := dd_all DL_sum_0_ok 21 rfl
theorem dL_sum_33 : decode cL_sum 33 = .ok (.iload_n 3, 1) := dd_all DL_sum_0_ok 22 rfl
theorem dL_sum_34 : decode cL_sum 34 = .ok (.laload, 1) := dd_all DL_sum_0_ok 23 rfl
theorem dL_sum_35 : decode cL_sum 35 = .ok (.invokestatic 29, 3) := dd_all DL_sum_0_ok 24 rfl
theorem dL_sum_38 : decode cL_sum 38 = .ok (.goto 4, 3) := dd_all DL_sum_0_ok 25 rfl
theorem dL_sum_41 : decode cL_sum 41 = .ok (.iconst 0, 1) := dd_all DL_sum_0_ok 26 rfl
theorem dL_sum_42 : decode cL_sum 42 = .ok (.iadd, 1) := dd_all DL_sum_0_ok 27 rfl
theorem dL_sum_43 : decode cL_sum 43 = .ok (.istore_n 2, 1) := dd_all DL_sum_0_ok 28 rfl
theorem dL_sum_44 : decode cL_sum 44 = .ok (.iinc 3 1, 3) := dd_all DL_sum_0_ok 29 rfl
theorem dL_sum_47 : decode cL_sum 47 = .ok (.goto (-43), 3) := dd_all DL_sum_0_ok 30 rfl
theorem dL_sum_50 : decode cL_sum 50 = .ok (.iload_n 2, 1) := dd_all DL_sum_0_ok 31 rfl
theorem dL_sum_51 : decode cL_sum 51 = .ok (.ireturn, 1) := dd_all DL_sum_0_ok 32 rfl
def DL_fades_0 : List (Nat × Instr × Nat) := [(0, .aload_n 0, 1), (1, .iload_n 1, 1), (2, .aload_n 0, 1), (3, .iload_n 1, 1), (4, .laload, 1), (5, .bipush 30, 2), (7, .bipush 11, 2), (9, .aload_n 0, 1), (10, .iload_n 1, 1), (11, .laload, 1), (12, .invokestatic 29, 3), (15, .invokestatic 25, 3), (18, .bipush 16, 2), (20, .iconst 3, 1), (21, .iload_n 2, 1), (22, .invokestatic 25, 3), (25, .bipush 41, 2), (27, .iconst 1, 1), (28, .iconst 0, 1), (29, .invokestatic 25, 3), (32, .lastore, 1), (33, .return_, 1)]
theorem DL_fades_0_ok : ∀ q ∈ DL_fades_0, decode cL_fades q.1 = .ok (q.2.1, q.2.2) := by decide +kernel
theorem dL_fades_0 : decode cL_fades 0 = .ok (.aload_n 0, 1) := dd_all DL_fades_0_ok 0 rfl
theorem dL_fades_1 : decode cL_fades 1 = .ok (.iload_n 1, 1) := dd_all DL_fades_0_ok 1 rfl
theorem dL_fades_2 : decode cL_fades 2 = .ok (.aload_n 0, 1) := dd_all DL_fades_0_ok 2 rfl
theorem dL_fades_3 : decode cL_fades 3 = .ok (.iload_n 1, 1) := dd_all DL_fades_0_ok 3 rfl
theorem dL_fades_4 : decode cL_fades 4 = .ok (.laload, 1) := dd_all DL_fades_0_ok 4 rfl
theorem dL_fades_5 : decode cL_fades 5 = .ok (.bipush 30, 2) := dd_all DL_fades_0_ok 5 rfl
theorem dL_fades_7 : decode cL_fades 7 = .ok (.bipush 11, 2) := dd_all DL_fades_0_ok 6 rfl
theorem dL_fades_9 : decode cL_fades 9 = .ok (.aload_n 0, 1) := dd_all DL_fades_0_ok 7 rfl
theorem dL_fades_10 : decode cL_fades 10 = .ok (.iload_n 1, 1) := dd_all DL_fades_0_ok 8 rfl
theorem dL_fades_11 : decode cL_fades 11 = .ok (.laload, 1) := dd_all DL_fades_0_ok 9 rfl
theorem dL_fades_12 : decode cL_fades 12 = .ok (.invokestatic 29, 3) := dd_all DL_fades_0_ok 10 rfl
theorem dL_fades_15 : decode cL_fades 15 = .ok (.invokestatic 25, 3) := dd_all DL_fades_0_ok 11 rfl
theorem dL_fades_18 : decode cL_fades 18 = .ok (.bipush 16, 2) := dd_all DL_fades_0_ok 12 rfl
theorem dL_fades_20 : decode cL_fades 20 = .ok (.iconst 3, 1) := dd_all DL_fades_0_ok 13 rfl
theorem dL_fades_21 : decode cL_fades 21 = .ok (.iload_n 2, 1) := dd_all DL_fades_0_ok 14 rfl
theorem dL_fades_22 : decode cL_fades 22 = .ok (.invokestatic 25, 3) := dd_all DL_fades_0_ok 15 rfl
theorem dL_fades_25 : decode cL_fades 25 = .ok (.bipush 41, 2) := dd_all DL_fades_0_ok 16 rfl
theorem dL_fades_27 : decode cL_fades 27 = .ok (.iconst 1, 1) := dd_all DL_fades_0_ok 17 rfl
theorem dL_fades_28 : decode cL_fades 28 = .ok (.iconst 0, 1) := dd_all DL_fades_0_ok 18 rfl
theorem dL_fades_29 : decode cL_fades 29 = .ok (.invokestatic 25, 3) := dd_all DL_fades_0_ok 19 rfl
theorem dL_fades_32 : decode cL_fades 32 = .ok (.lastore, 1) := dd_all DL_fades_0_ok 20 rfl
theorem dL_fades_33 : decode cL_fades 33 = .ok (.return_, 1) := dd_all DL_fades_0_ok 21 rfl
def DL_lifts_0 : List (Nat × Instr × Nat) := [(0, .iconst 0, 1), (1, .istore_n 2, 1), (2, .aload_n 0, 1), (3, .iconst 2, 1), (4, .iconst 0, 1), (5, .iastore, 1), (6, .iconst 0, 1), (7, .istore_n 3, 1), (8, .iload_n 3, 1), (9, .aload_n 0, 1), (10, .iconst 0, 1), (11, .iaload, 1), (12, .if_icmp .ge 31, 3), (15, .aload_n 1, 1), (16, .iload_n 3, 1), (17, .laload, 1), (18, .bipush 41, 2), (20, .iconst 1, 1), (21, .invokestatic 11, 3), (24, .iconst 1, 1), (25, .if_icmp .ne 12, 3), (28, .aload_n 1, 1), (29, .iload_n 3, 1), (30, .iconst 4, 1), (31, .invokestatic 58, 3), (34, .iinc 2 1, 3), (37, .iinc 3 1, 3), (40, .goto (-32), 3), (43, .iload_n 2, 1), (44, .ireturn, 1)]
theorem DL_lifts_0_ok : ∀ q ∈ DL_lifts_0, decode cL_lifts q.1 = .ok (q.2.1, q.2.2) := by decide +kernel
theorem dL_lifts_0 : decode cL_lifts 0 = .ok (.iconst 0, 1) := dd_all DL_lifts_0_ok 0 rfl
theorem dL_lifts_1 : decode cL_lifts 1 = .ok (.istore_n 2, 1) := dd_all DL_lifts_0_ok 1 rfl
theorem dL_lifts_2 : decode cL_lifts 2 = .ok (.aload_n 0, 1) := dd_all DL_lifts_0_ok 2 rfl
theorem dL_lifts_3 : decode cL_lifts 3 = .ok (.iconst 2, 1) := dd_all DL_lifts_0_ok 3 rfl
theorem dL_lifts_4 : decode cL_lifts 4 = .ok (.iconst 0, 1) := dd_all DL_lifts_0_ok 4 rfl
theorem dL_lifts_5 : decode cL_lifts 5 = .ok (.iastore, 1) := dd_all DL_lifts_0_ok 5 rfl
theorem dL_lifts_6 : decode cL_lifts 6 = .ok (.iconst 0, 1) := dd_all DL_lifts_0_ok 6 rfl
theorem dL_lifts_7 : decode cL_lifts 7 = .ok (.istore_n 3, 1) := dd_all DL_lifts_0_ok 7 rfl
theorem dL_lifts_8 : decode cL_lifts 8 = .ok (.iload_n 3, 1) := dd_all DL_lifts_0_ok 8 rfl
theorem dL_lifts_9 : decode cL_lifts 9 = .ok (.aload_n 0, 1) := dd_all DL_lifts_0_ok 9 rfl
theorem dL_lifts_10 : decode cL_lifts 10 = .ok (.iconst 0, 1) := dd_all DL_lifts_0_ok 10 rfl
theorem dL_lifts_11 : decode cL_lifts 11 = .ok (.iaload, 1) := dd_all DL_lifts_0_ok 11 rfl
theorem dL_lifts_12 : decode cL_lifts 12 = .ok (.if_icmp .ge 31, 3) := dd_all DL_lifts_0_ok 12 rfl
theorem dL_lifts_15 : decode cL_lifts 15 = .ok (.aload_n 1, 1) := dd_all DL_lifts_0_ok 13 rfl
theorem dL_lifts_16 : decode cL_lifts 16 = .ok (.iload_n 3, 1) := dd_all DL_lifts_0_ok 14 rfl
theorem dL_lifts_17 : decode cL_lifts 17 = .ok (.laload, 1) := dd_all DL_lifts_0_ok 15 rfl
theorem dL_lifts_18 : decode cL_lifts 18 = .ok (.bipush 41, 2) := dd_all DL_lifts_0_ok 16 rfl
theorem dL_lifts_20 : decode cL_lifts 20 = .ok (.iconst 1, 1) := dd_all DL_lifts_0_ok 17 rfl
theorem dL_lifts_21 : decode cL_lifts 21 = .ok (.invokestatic 11, 3) := dd_all DL_lifts_0_ok 18 rfl
theorem dL_lifts_24 : decode cL_lifts 24 = .ok (.iconst 1, 1) := dd_all DL_lifts_0_ok 19 rfl
theorem dL_lifts_25 : decode cL_lifts 25 = .ok (.if_icmp .ne 12, 3) := dd_all DL_lifts_0_ok 20 rfl
theorem dL_lifts_28 : decode cL_lifts 28 = .ok (.aload_n 1, 1) := dd_all DL_lifts_0_ok 21 rfl
theorem dL_lifts_29 : decode cL_lifts 29 = .ok (.iload_n 3, 1) := dd_all DL_lifts_0_ok 22 rfl
theorem dL_lifts_30 : decode cL_lifts 30 = .ok (.iconst 4, 1) := dd_all DL_lifts_0_ok 23 rfl
theorem dL_lifts_31 : decode cL_lifts 31 = .ok (.invokestatic 58, 3) := dd_all DL_lifts_0_ok 24 rfl
theorem dL_lifts_34 : decode cL_lifts 34 = .ok (.iinc 2 1, 3) := dd_all DL_lifts_0_ok 25 rfl
theorem dL_lifts_37 : decode cL_lifts 37 = .ok (.iinc 3 1, 3) := dd_all DL_lifts_0_ok 26 rfl
theorem dL_lifts_40 : decode cL_lifts 40 = .ok (.goto (-32), 3) := dd_all DL_lifts_0_ok 27 rfl
theorem dL_lifts_43 : decode cL_lifts 43 = .ok (.iload_n 2, 1) := dd_all DL_lifts_0_ok 28 rfl
theorem dL_lifts_44 : decode cL_lifts 44 = .ok (.ireturn, 1) := dd_all DL_lifts_0_ok 29 rfl
def DL_knocks_0 : List (Nat × Instr × Nat) := [(0, .aload_n 1, 1), (1, .aload_n 2, 1), (2, .iload_n 3, 1), (3, .iload 4, 2), (5, .invokestatic 50, 3), (8, .istore 6, 2), (10, .iload 6, 2), (12, .ifCond .lt 32, 3), (15, .aload_n 1, 1), (16, .aload_n 2, 1), (17, .iload 6, 2), (19, .iload 5, 2), (21, .invokestatic 54, 3), (24, .aload_n 0, 1), (25, .iload_n 3, 1), (26, .iload 4, 2), (28, .iload 5, 2), (30, .invokevirtual 62, 3), (33, .iload 6, 2), (35, .if_icmp .ne 7, 3), (38, .iconst 1, 1), (39, .goto 4, 3), (42, .iconst 0, 1), (43, .ireturn, 1), (44, .aload_n 1, 1), (45, .aload_n 2, 1), (46, .bipush 9, 2), (48, .invokestatic 36, 3), (51, .aload_n 1, 1), (52, .bipush 6, 2), (54, .iaload, 1), (55, .if_icmp .ge 7, 3), (58, .iconst 1, 1), (59, .goto 4, 3), (62, .iconst 0, 1), (63, .istore 7, 2), (65, .iload 7, 2), (67, .ifCond .ne 13, 3), (70, .aload_n 1, 1), (71, .aload_n 2, 1)]
theorem DL_knocks_0_ok : ∀ q ∈ DL_knocks_0, decode cL_knocks q.1 = .ok (q.2.1, q.2.2) := by decide +kernel
theorem dL_knocks_0 : decode cL_knocks 0 = .ok (.aload_n 1, 1) := dd_all DL_knocks_0_ok 0 rfl
theorem dL_knocks_1 : decode cL_knocks 1 = .ok (.aload_n 2, 1) := dd_all DL_knocks_0_ok 1 rfl
theorem dL_knocks_2 : decode cL_knocks 2 = .ok (.iload_n 3, 1) := dd_all DL_knocks_0_ok 2 rfl
theorem dL_knocks_3 : decode cL_knocks 3 = .ok (.iload 4, 2) := dd_all DL_knocks_0_ok 3 rfl
theorem dL_knocks_5 : decode cL_knocks 5 = .ok (.invokestatic 50, 3) := dd_all DL_knocks_0_ok 4 rfl
theorem dL_knocks_8 : decode cL_knocks 8 = .ok (.istore 6, 2) := dd_all DL_knocks_0_ok 5 rfl
theorem dL_knocks_10 : decode cL_knocks 10 = .ok (.iload 6, 2) := dd_all DL_knocks_0_ok 6 rfl
theorem dL_knocks_12 : decode cL_knocks 12 = .ok (.ifCond .lt 32, 3) := dd_all DL_knocks_0_ok 7 rfl
theorem dL_knocks_15 : decode cL_knocks 15 = .ok (.aload_n 1, 1) := dd_all DL_knocks_0_ok 8 rfl
theorem dL_knocks_16 : decode cL_knocks 16 = .ok (.aload_n 2, 1) := dd_all DL_knocks_0_ok 9 rfl
theorem dL_knocks_17 : decode cL_knocks 17 = .ok (.iload 6, 2) := dd_all DL_knocks_0_ok 10 rfl
theorem dL_knocks_19 : decode cL_knocks 19 = .ok (.iload 5, 2) := dd_all DL_knocks_0_ok 11 rfl
theorem dL_knocks_21 : decode cL_knocks 21 = .ok (.invokestatic 54, 3) := dd_all DL_knocks_0_ok 12 rfl
theorem dL_knocks_24 : decode cL_knocks 24 = .ok (.aload_n 0, 1) := dd_all DL_knocks_0_ok 13 rfl
theorem dL_knocks_25 : decode cL_knocks 25 = .ok (.iload_n 3, 1) := dd_all DL_knocks_0_ok 14 rfl
theorem dL_knocks_26 : decode cL_knocks 26 = .ok (.iload 4, 2) := dd_all DL_knocks_0_ok 15 rfl
theorem dL_knocks_28 : decode cL_knocks 28 = .ok (.iload 5, 2) := dd_all DL_knocks_0_ok 16 rfl
theorem dL_knocks_30 : decode cL_knocks 30 = .ok (.invokevirtual 62, 3) := dd_all DL_knocks_0_ok 17 rfl
theorem dL_knocks_33 : decode cL_knocks 33 = .ok (.iload 6, 2) := dd_all DL_knocks_0_ok 18 rfl
theorem dL_knocks_35 : decode cL_knocks 35 = .ok (.if_icmp .ne 7, 3) := dd_all DL_knocks_0_ok 19 rfl
theorem dL_knocks_38 : decode cL_knocks 38 = .ok (.iconst 1, 1) := dd_all DL_knocks_0_ok 20 rfl
theorem dL_knocks_39 : decode cL_knocks 39 = .ok (.goto 4, 3) := dd_all DL_knocks_0_ok 21 rfl
theorem dL_knocks_42 : decode cL_knocks 42 = .ok (.iconst 0, 1) := dd_all DL_knocks_0_ok 22 rfl
theorem dL_knocks_43 : decode cL_knocks 43 = .ok (.ireturn, 1) := dd_all DL_knocks_0_ok 23 rfl
theorem dL_knocks_44 : decode cL_knocks 44 = .ok (.aload_n 1, 1) := dd_all DL_knocks_0_ok 24 rfl
theorem dL_knocks_45 : decode cL_knocks 45 = .ok (.aload_n 2, 1) := dd_all DL_knocks_0_ok 25 rfl
theorem dL_knocks_46 : decode cL_knocks 46 = .ok (.bipush 9, 2) := dd_all DL_knocks_0_ok 26 rfl
theorem dL_knocks_48 : decode cL_knocks 48 = .ok (.invokestatic 36, 3) := dd_all DL_knocks_0_ok 27 rfl
theorem dL_knocks_51 : decode cL_knocks 51 = .ok (.aload_n 1, 1) := dd_all DL_knocks_0_ok 28 rfl
theorem dL_knocks_52 : decode cL_knocks 52 = .ok (.bipush 6, 2) := dd_all DL_knocks_0_ok 29 rfl
theorem dL_knocks_54 : decode cL_knocks 54 = .ok (.iaload, 1) := dd_all DL_knocks_0_ok 30 rfl
theorem dL_knocks_55 : decode cL_knocks 55 = .ok (.if_icmp .ge 7, 3) := dd_all DL_knocks_0_ok 31 rfl
theorem dL_knocks_58 : decode cL_knocks 58 = .ok (.iconst 1, 1) := dd_all DL_knocks_0_ok 32 rfl
theorem dL_knocks_59 : decode cL_knocks 59 = .ok (.goto 4, 3) := dd_all DL_knocks_0_ok 33 rfl
theorem dL_knocks_62 : decode cL_knocks 62 = .ok (.iconst 0, 1) := dd_all DL_knocks_0_ok 34 rfl
theorem dL_knocks_63 : decode cL_knocks 63 = .ok (.istore 7, 2) := dd_all DL_knocks_0_ok 35 rfl
theorem dL_knocks_65 : decode cL_knocks 65 = .ok (.iload 7, 2) := dd_all DL_knocks_0_ok 36 rfl
theorem dL_knocks_67 : decode cL_knocks 67 = .ok (.ifCond .ne 13, 3) := dd_all DL_knocks_0_ok 37 rfl
theorem dL_knocks_70 : decode cL_knocks 70 = .ok (.aload_n 1, 1) := dd_all DL_knocks_0_ok 38 rfl
theorem dL_knocks_71 : decode cL_knocks 71 = .ok (.aload_n 2, 1) := dd_all DL_knocks_0_ok 39 rfl
def DL_knocks_40 : List (Nat × Instr × Nat) := [(72, .iconst 5, 1), (73, .invokestatic 36, 3), (76, .iconst 3, 1), (77, .if_icmp .le 8, 3), (80, .bipush (-4), 2), (82, .goto 8, 3), (85, .aload_n 1, 1), (86, .aload_n 2, 1), (87, .invokestatic 68, 3), (90, .istore 8, 2), (92, .iload 7, 2), (94, .ifCond .ne 39, 3), (97, .iload 8, 2), (99, .ifCond .ge 34, 3), (102, .aload_n 1, 1), (103, .aload_n 2, 1), (104, .iconst 0, 1), (105, .invokestatic 36, 3), (108, .bipush 6, 2), (110, .if_icmp .ne 23, 3), (113, .aload_n 0, 1), (114, .iload_n 3, 1), (115, .iload 4, 2), (117, .iload 5, 2), (119, .invokevirtual 62, 3), (122, .bipush (-3), 2), (124, .if_icmp .ne 7, 3), (127, .iconst 1, 1), (128, .goto 4, 3), (131, .iconst 0, 1), (132, .ireturn, 1), (133, .aload_n 1, 1), (134, .iconst 0, 1), (135, .iaload, 1), (136, .istore 9, 2), (138, .aload_n 2, 1), (139, .iload 9, 2), (141, .iload_n 3, 1), (142, .iload 4, 2), (144, .iconst 2, 1)]
theorem DL_knocks_40_ok : ∀ q ∈ DL_knocks_40, decode cL_knocks q.1 = .ok (q.2.1, q.2.2) := by decide +kernel
theorem dL_knocks_72 : decode cL_knocks 72 = .ok (.iconst 5, 1) := dd_all DL_knocks_40_ok 0 rfl
theorem dL_knocks_73 : decode cL_knocks 73 = .ok (.invokestatic 36, 3) := dd_all DL_knocks_40_ok 1 rfl
theorem dL_knocks_76 : decode cL_knocks 76 = .ok (.iconst 3, 1) := dd_all DL_knocks_40_ok 2 rfl
theorem dL_knocks_77 : decode cL_knocks 77 = .ok (.if_icmp .le 8, 3) := dd_all DL_knocks_40_ok 3 rfl
theorem dL_knocks_80 : decode cL_knocks 80 = .ok (.bipush (-4), 2) := dd_all DL_knocks_40_ok 4 rfl
theorem dL_knocks_82 : decode cL_knocks 82 = .ok (.goto 8, 3) := dd_all DL_knocks_40_ok 5 rfl
theorem dL_knocks_85 : decode cL_knocks 85 = .ok (.aload_n 1, 1) := dd_all DL_knocks_40_ok 6 rfl
theorem dL_knocks_86 : decode cL_knocks 86 = .ok (.aload_n 2, 1) := dd_all DL_knocks_40_ok 7 rfl
theorem dL_knocks_87 : decode cL_knocks 87 = .ok (.invokestatic 68, 3) := dd_all DL_knocks_40_ok 8 rfl
theorem dL_knocks_90 : decode cL_knocks 90 = .ok (.istore 8, 2) := dd_all DL_knocks_40_ok 9 rfl
theorem dL_knocks_92 : decode cL_knocks 92 = .ok (.iload 7, 2) := dd_all DL_knocks_40_ok 10 rfl
theorem dL_knocks_94 : decode cL_knocks 94 = .ok (.ifCond .ne 39, 3) := dd_all DL_knocks_40_ok 11 rfl
theorem dL_knocks_97 : decode cL_knocks 97 = .ok (.iload 8, 2) := dd_all DL_knocks_40_ok 12 rfl
theorem dL_knocks_99 : decode cL_knocks 99 = .ok (.ifCond .ge 34, 3) := dd_all DL_knocks_40_ok 13 rfl
theorem dL_knocks_102 : decode cL_knocks 102 = .ok (.aload_n 1, 1) := dd_all DL_knocks_40_ok 14 rfl
theorem dL_knocks_103 : decode cL_knocks 103 = .ok (.aload_n 2, 1) := dd_all DL_knocks_40_ok 15 rfl
theorem dL_knocks_104 : decode cL_knocks 104 = .ok (.iconst 0, 1) := dd_all DL_knocks_40_ok 16 rfl
theorem dL_knocks_105 : decode cL_knocks 105 = .ok (.invokestatic 36, 3) := dd_all DL_knocks_40_ok 17 rfl
theorem dL_knocks_108 : decode cL_knocks 108 = .ok (.bipush 6, 2) := dd_all DL_knocks_40_ok 18 rfl
theorem dL_knocks_110 : decode cL_knocks 110 = .ok (.if_icmp .ne 23, 3) := dd_all DL_knocks_40_ok 19 rfl
theorem dL_knocks_113 : decode cL_knocks 113 = .ok (.aload_n 0, 1) := dd_all DL_knocks_40_ok 20 rfl
theorem dL_knocks_114 : decode cL_knocks 114 = .ok (.iload_n 3, 1) := dd_all DL_knocks_40_ok 21 rfl
theorem dL_knocks_115 : decode cL_knocks 115 = .ok (.iload 4, 2) := dd_all DL_knocks_40_ok 22 rfl
theorem dL_knocks_117 : decode cL_knocks 117 = .ok (.iload 5, 2) := dd_all DL_knocks_40_ok 23 rfl
theorem dL_knocks_119 : decode cL_knocks 119 = .ok (.invokevirtual 62, 3) := dd_all DL_knocks_40_ok 24 rfl
theorem dL_knocks_122 : decode cL_knocks 122 = .ok (.bipush (-3), 2) := dd_all DL_knocks_40_ok 25 rfl
theorem dL_knocks_124 : decode cL_knocks 124 = .ok (.if_icmp .ne 7, 3) := dd_all DL_knocks_40_ok 26 rfl
theorem dL_knocks_127 : decode cL_knocks 127 = .ok (.iconst 1, 1) := dd_all DL_knocks_40_ok 27 rfl
theorem dL_knocks_128 : decode cL_knocks 128 = .ok (.goto 4, 3) := dd_all DL_knocks_40_ok 28 rfl
theorem dL_knocks_131 : decode cL_knocks 131 = .ok (.iconst 0, 1) := dd_all DL_knocks_40_ok 29 rfl
theorem dL_knocks_132 : decode cL_knocks 132 = .ok (.ireturn, 1) := dd_all DL_knocks_40_ok 30 rfl
theorem dL_knocks_133 : decode cL_knocks 133 = .ok (.aload_n 1, 1) := dd_all DL_knocks_40_ok 31 rfl
theorem dL_knocks_134 : decode cL_knocks 134 = .ok (.iconst 0, 1) := dd_all DL_knocks_40_ok 32 rfl
theorem dL_knocks_135 : decode cL_knocks 135 = .ok (.iaload, 1) := dd_all DL_knocks_40_ok 33 rfl
theorem dL_knocks_136 : decode cL_knocks 136 = .ok (.istore 9, 2) := dd_all DL_knocks_40_ok 34 rfl
theorem dL_knocks_138 : decode cL_knocks 138 = .ok (.aload_n 2, 1) := dd_all DL_knocks_40_ok 35 rfl
theorem dL_knocks_139 : decode cL_knocks 139 = .ok (.iload 9, 2) := dd_all DL_knocks_40_ok 36 rfl
theorem dL_knocks_141 : decode cL_knocks 141 = .ok (.iload_n 3, 1) := dd_all DL_knocks_40_ok 37 rfl
theorem dL_knocks_142 : decode cL_knocks 142 = .ok (.iload 4, 2) := dd_all DL_knocks_40_ok 38 rfl
theorem dL_knocks_144 : decode cL_knocks 144 = .ok (.iconst 2, 1) := dd_all DL_knocks_40_ok 39 rfl
def DL_knocks_80 : List (Nat × Instr × Nat) := [(145, .ishl, 1), (146, .ior, 1), (147, .iload 5, 2), (149, .bipush 9, 2), (151, .ishl, 1), (152, .ior, 1), (153, .i2l, 1), (154, .lastore, 1), (155, .aload_n 1, 1), (156, .iconst 0, 1), (157, .dup2, 1), (158, .iaload, 1), (159, .iconst 1, 1), (160, .iadd, 1), (161, .iastore, 1), (162, .iload 8, 2), (164, .ifCond .lt 17, 3), (167, .aload_n 2, 1), (168, .iload 8, 2), (170, .iconst 5, 1), (171, .invokestatic 58, 3), (174, .aload_n 1, 1), (175, .iconst 3, 1), (176, .dup2, 1), (177, .iaload, 1), (178, .iconst 1, 1), (179, .iadd, 1), (180, .iastore, 1), (181, .iload 7, 2), (183, .ifCond .ne 8, 3), (186, .iload 8, 2), (188, .ifCond .lt 13, 3), (191, .aload_n 1, 1), (192, .aload_n 2, 1), (193, .iload 9, 2), (195, .iconst 1, 1), (196, .iload 5, 2), (198, .invokestatic 32, 3), (201, .aload_n 0, 1), (202, .iload_n 3, 1)]
theorem DL_knocks_80_ok : ∀ q ∈ DL_knocks_80, decode cL_knocks q.1 = .ok (q.2.1, q.2.2) := by decide +kernel
theorem dL_knocks_145 : decode cL_knocks 145 = .ok (.ishl, 1) := dd_all DL_knocks_80_ok 0 rfl
theorem dL_knocks_146 : decode cL_knocks 146 = .ok (.ior, 1) := dd_all DL_knocks_80_ok 1 rfl
theorem dL_knocks_147 : decode cL_knocks 147 = .ok (.iload 5, 2) := dd_all DL_knocks_80_ok 2 rfl
theorem dL_knocks_149 : decode cL_knocks 149 = .ok (.bipush 9, 2) := dd_all DL_knocks_80_ok 3 rfl
theorem dL_knocks_151 : decode cL_knocks 151 = .ok (.ishl, 1) := dd_all DL_knocks_80_ok 4 rfl
theorem dL_knocks_152 : decode cL_knocks 152 = .ok (.ior, 1) := dd_all DL_knocks_80_ok 5 rfl
theorem dL_knocks_153 : decode cL_knocks 153 = .ok (.i2l, 1) := dd_all DL_knocks_80_ok 6 rfl
theorem dL_knocks_154 : decode cL_knocks 154 = .ok (.lastore, 1) := dd_all DL_knocks_80_ok 7 rfl
theorem dL_knocks_155 : decode cL_knocks 155 = .ok (.aload_n 1, 1) := dd_all DL_knocks_80_ok 8 rfl
theorem dL_knocks_156 : decode cL_knocks 156 = .ok (.iconst 0, 1) := dd_all DL_knocks_80_ok 9 rfl
theorem dL_knocks_157 : decode cL_knocks 157 = .ok (.dup2, 1) := dd_all DL_knocks_80_ok 10 rfl
theorem dL_knocks_158 : decode cL_knocks 158 = .ok (.iaload, 1) := dd_all DL_knocks_80_ok 11 rfl
theorem dL_knocks_159 : decode cL_knocks 159 = .ok (.iconst 1, 1) := dd_all DL_knocks_80_ok 12 rfl
theorem dL_knocks_160 : decode cL_knocks 160 = .ok (.iadd, 1) := dd_all DL_knocks_80_ok 13 rfl
theorem dL_knocks_161 : decode cL_knocks 161 = .ok (.iastore, 1) := dd_all DL_knocks_80_ok 14 rfl
theorem dL_knocks_162 : decode cL_knocks 162 = .ok (.iload 8, 2) := dd_all DL_knocks_80_ok 15 rfl
theorem dL_knocks_164 : decode cL_knocks 164 = .ok (.ifCond .lt 17, 3) := dd_all DL_knocks_80_ok 16 rfl
theorem dL_knocks_167 : decode cL_knocks 167 = .ok (.aload_n 2, 1) := dd_all DL_knocks_80_ok 17 rfl
theorem dL_knocks_168 : decode cL_knocks 168 = .ok (.iload 8, 2) := dd_all DL_knocks_80_ok 18 rfl
theorem dL_knocks_170 : decode cL_knocks 170 = .ok (.iconst 5, 1) := dd_all DL_knocks_80_ok 19 rfl
theorem dL_knocks_171 : decode cL_knocks 171 = .ok (.invokestatic 58, 3) := dd_all DL_knocks_80_ok 20 rfl
theorem dL_knocks_174 : decode cL_knocks 174 = .ok (.aload_n 1, 1) := dd_all DL_knocks_80_ok 21 rfl
theorem dL_knocks_175 : decode cL_knocks 175 = .ok (.iconst 3, 1) := dd_all DL_knocks_80_ok 22 rfl
theorem dL_knocks_176 : decode cL_knocks 176 = .ok (.dup2, 1) := dd_all DL_knocks_80_ok 23 rfl
theorem dL_knocks_177 : decode cL_knocks 177 = .ok (.iaload, 1) := dd_all DL_knocks_80_ok 24 rfl
theorem dL_knocks_178 : decode cL_knocks 178 = .ok (.iconst 1, 1) := dd_all DL_knocks_80_ok 25 rfl
theorem dL_knocks_179 : decode cL_knocks 179 = .ok (.iadd, 1) := dd_all DL_knocks_80_ok 26 rfl
theorem dL_knocks_180 : decode cL_knocks 180 = .ok (.iastore, 1) := dd_all DL_knocks_80_ok 27 rfl
theorem dL_knocks_181 : decode cL_knocks 181 = .ok (.iload 7, 2) := dd_all DL_knocks_80_ok 28 rfl
theorem dL_knocks_183 : decode cL_knocks 183 = .ok (.ifCond .ne 8, 3) := dd_all DL_knocks_80_ok 29 rfl
theorem dL_knocks_186 : decode cL_knocks 186 = .ok (.iload 8, 2) := dd_all DL_knocks_80_ok 30 rfl
theorem dL_knocks_188 : decode cL_knocks 188 = .ok (.ifCond .lt 13, 3) := dd_all DL_knocks_80_ok 31 rfl
theorem dL_knocks_191 : decode cL_knocks 191 = .ok (.aload_n 1, 1) := dd_all DL_knocks_80_ok 32 rfl
theorem dL_knocks_192 : decode cL_knocks 192 = .ok (.aload_n 2, 1) := dd_all DL_knocks_80_ok 33 rfl
theorem dL_knocks_193 : decode cL_knocks 193 = .ok (.iload 9, 2) := dd_all DL_knocks_80_ok 34 rfl
theorem dL_knocks_195 : decode cL_knocks 195 = .ok (.iconst 1, 1) := dd_all DL_knocks_80_ok 35 rfl
theorem dL_knocks_196 : decode cL_knocks 196 = .ok (.iload 5, 2) := dd_all DL_knocks_80_ok 36 rfl
theorem dL_knocks_198 : decode cL_knocks 198 = .ok (.invokestatic 32, 3) := dd_all DL_knocks_80_ok 37 rfl
theorem dL_knocks_201 : decode cL_knocks 201 = .ok (.aload_n 0, 1) := dd_all DL_knocks_80_ok 38 rfl
theorem dL_knocks_202 : decode cL_knocks 202 = .ok (.iload_n 3, 1) := dd_all DL_knocks_80_ok 39 rfl
def DL_knocks_120 : List (Nat × Instr × Nat) := [(203, .iload 4, 2), (205, .iload 5, 2), (207, .invokevirtual 62, 3), (210, .iload 9, 2), (212, .if_icmp .ne 7, 3), (215, .iconst 1, 1), (216, .goto 4, 3), (219, .iconst 0, 1), (220, .ireturn, 1)]
theorem DL_knocks_120_ok : ∀ q ∈ DL_knocks_120, decode cL_knocks q.1 = .ok (q.2.1, q.2.2) := by decide +kernel
theorem dL_knocks_203 : decode cL_knocks 203 = .ok (.iload 4, 2) := dd_all DL_knocks_120_ok 0 rfl
theorem dL_knocks_205 : decode cL_knocks 205 = .ok (.iload 5, 2) := dd_all DL_knocks_120_ok 1 rfl
theorem dL_knocks_207 : decode cL_knocks 207 = .ok (.invokevirtual 62, 3) := dd_all DL_knocks_120_ok 2 rfl
theorem dL_knocks_210 : decode cL_knocks 210 = .ok (.iload 9, 2) := dd_all DL_knocks_120_ok 3 rfl
theorem dL_knocks_212 : decode cL_knocks 212 = .ok (.if_icmp .ne 7, 3) := dd_all DL_knocks_120_ok 4 rfl
theorem dL_knocks_215 : decode cL_knocks 215 = .ok (.iconst 1, 1) := dd_all DL_knocks_120_ok 5 rfl
theorem dL_knocks_216 : decode cL_knocks 216 = .ok (.goto 4, 3) := dd_all DL_knocks_120_ok 6 rfl
theorem dL_knocks_219 : decode cL_knocks 219 = .ok (.iconst 0, 1) := dd_all DL_knocks_120_ok 7 rfl
theorem dL_knocks_220 : decode cL_knocks 220 = .ok (.ireturn, 1) := dd_all DL_knocks_120_ok 8 rfl
def DL_lets_0 : List (Nat × Instr × Nat) := [(0, .aload_n 1, 1), (1, .aload_n 2, 1), (2, .iload_n 3, 1), (3, .iload 4, 2), (5, .invokestatic 50, 3), (8, .istore 5, 2), (10, .iload 5, 2), (12, .ifCond .lt 77, 3), (15, .aload_n 2, 1), (16, .iload 5, 2), (18, .laload, 1), (19, .invokestatic 17, 3), (22, .iconst 4, 1), (23, .if_icmp .ge 66, 3), (26, .aload_n 2, 1), (27, .iload 5, 2), (29, .laload, 1), (30, .bipush 41, 2), (32, .iconst 1, 1), (33, .invokestatic 11, 3), (36, .ifCond .ne 53, 3), (39, .aload_n 1, 1), (40, .iconst 2, 1), (41, .iaload, 1), (42, .iconst 1, 1), (43, .if_icmp .ne 21, 3), (46, .aload_n 2, 1), (47, .iload 5, 2), (49, .aload_n 2, 1), (50, .iload 5, 2), (52, .laload, 1), (53, .bipush 41, 2), (55, .iconst 1, 1), (56, .iconst 1, 1), (57, .invokestatic 25, 3), (60, .lastore, 1), (61, .goto 10, 3), (64, .aload_n 2, 1), (65, .iload 5, 2), (67, .iconst 4, 1)]
theorem DL_lets_0_ok : ∀ q ∈ DL_lets_0, decode cL_lets q.1 = .ok (q.2.1, q.2.2) := by decide +kernel
theorem dL_lets_0 : decode cL_lets 0 = .ok (.aload_n 1, 1) := dd_all DL_lets_0_ok 0 rfl
theorem dL_lets_1 : decode cL_lets 1 = .ok (.aload_n 2, 1) := dd_all DL_lets_0_ok 1 rfl
theorem dL_lets_2 : decode cL_lets 2 = .ok (.iload_n 3, 1) := dd_all DL_lets_0_ok 2 rfl
theorem dL_lets_3 : decode cL_lets 3 = .ok (.iload 4, 2) := dd_all DL_lets_0_ok 3 rfl
theorem dL_lets_5 : decode cL_lets 5 = .ok (.invokestatic 50, 3) := dd_all DL_lets_0_ok 4 rfl
theorem dL_lets_8 : decode cL_lets 8 = .ok (.istore 5, 2) := dd_all DL_lets_0_ok 5 rfl
theorem dL_lets_10 : decode cL_lets 10 = .ok (.iload 5, 2) := dd_all DL_lets_0_ok 6 rfl
theorem dL_lets_12 : decode cL_lets 12 = .ok (.ifCond .lt 77, 3) := dd_all DL_lets_0_ok 7 rfl
theorem dL_lets_15 : decode cL_lets 15 = .ok (.aload_n 2, 1) := dd_all DL_lets_0_ok 8 rfl
theorem dL_lets_16 : decode cL_lets 16 = .ok (.iload 5, 2) := dd_all DL_lets_0_ok 9 rfl
theorem dL_lets_18 : decode cL_lets 18 = .ok (.laload, 1) := dd_all DL_lets_0_ok 10 rfl
theorem dL_lets_19 : decode cL_lets 19 = .ok (.invokestatic 17, 3) := dd_all DL_lets_0_ok 11 rfl
theorem dL_lets_22 : decode cL_lets 22 = .ok (.iconst 4, 1) := dd_all DL_lets_0_ok 12 rfl
theorem dL_lets_23 : decode cL_lets 23 = .ok (.if_icmp .ge 66, 3) := dd_all DL_lets_0_ok 13 rfl
theorem dL_lets_26 : decode cL_lets 26 = .ok (.aload_n 2, 1) := dd_all DL_lets_0_ok 14 rfl
theorem dL_lets_27 : decode cL_lets 27 = .ok (.iload 5, 2) := dd_all DL_lets_0_ok 15 rfl
theorem dL_lets_29 : decode cL_lets 29 = .ok (.laload, 1) := dd_all DL_lets_0_ok 16 rfl
theorem dL_lets_30 : decode cL_lets 30 = .ok (.bipush 41, 2) := dd_all DL_lets_0_ok 17 rfl
theorem dL_lets_32 : decode cL_lets 32 = .ok (.iconst 1, 1) := dd_all DL_lets_0_ok 18 rfl
theorem dL_lets_33 : decode cL_lets 33 = .ok (.invokestatic 11, 3) := dd_all DL_lets_0_ok 19 rfl
theorem dL_lets_36 : decode cL_lets 36 = .ok (.ifCond .ne 53, 3) := dd_all DL_lets_0_ok 20 rfl
theorem dL_lets_39 : decode cL_lets 39 = .ok (.aload_n 1, 1) := dd_all DL_lets_0_ok 21 rfl
theorem dL_lets_40 : decode cL_lets 40 = .ok (.iconst 2, 1) := dd_all DL_lets_0_ok 22 rfl
theorem dL_lets_41 : decode cL_lets 41 = .ok (.iaload, 1) := dd_all DL_lets_0_ok 23 rfl
theorem dL_lets_42 : decode cL_lets 42 = .ok (.iconst 1, 1) := dd_all DL_lets_0_ok 24 rfl
theorem dL_lets_43 : decode cL_lets 43 = .ok (.if_icmp .ne 21, 3) := dd_all DL_lets_0_ok 25 rfl
theorem dL_lets_46 : decode cL_lets 46 = .ok (.aload_n 2, 1) := dd_all DL_lets_0_ok 26 rfl
theorem dL_lets_47 : decode cL_lets 47 = .ok (.iload 5, 2) := dd_all DL_lets_0_ok 27 rfl
theorem dL_lets_49 : decode cL_lets 49 = .ok (.aload_n 2, 1) := dd_all DL_lets_0_ok 28 rfl
theorem dL_lets_50 : decode cL_lets 50 = .ok (.iload 5, 2) := dd_all DL_lets_0_ok 29 rfl
theorem dL_lets_52 : decode cL_lets 52 = .ok (.laload, 1) := dd_all DL_lets_0_ok 30 rfl
theorem dL_lets_53 : decode cL_lets 53 = .ok (.bipush 41, 2) := dd_all DL_lets_0_ok 31 rfl
theorem dL_lets_55 : decode cL_lets 55 = .ok (.iconst 1, 1) := dd_all DL_lets_0_ok 32 rfl
theorem dL_lets_56 : decode cL_lets 56 = .ok (.iconst 1, 1) := dd_all DL_lets_0_ok 33 rfl
theorem dL_lets_57 : decode cL_lets 57 = .ok (.invokestatic 25, 3) := dd_all DL_lets_0_ok 34 rfl
theorem dL_lets_60 : decode cL_lets 60 = .ok (.lastore, 1) := dd_all DL_lets_0_ok 35 rfl
theorem dL_lets_61 : decode cL_lets 61 = .ok (.goto 10, 3) := dd_all DL_lets_0_ok 36 rfl
theorem dL_lets_64 : decode cL_lets 64 = .ok (.aload_n 2, 1) := dd_all DL_lets_0_ok 37 rfl
theorem dL_lets_65 : decode cL_lets 65 = .ok (.iload 5, 2) := dd_all DL_lets_0_ok 38 rfl
theorem dL_lets_67 : decode cL_lets 67 = .ok (.iconst 4, 1) := dd_all DL_lets_0_ok 39 rfl
def DL_lets_40 : List (Nat × Instr × Nat) := [(68, .invokestatic 58, 3), (71, .aload_n 0, 1), (72, .iload_n 3, 1), (73, .iload 4, 2), (75, .invokevirtual 72, 3), (78, .iload 5, 2), (80, .if_icmp .ne 7, 3), (83, .iconst 1, 1), (84, .goto 4, 3), (87, .iconst 0, 1), (88, .ireturn, 1), (89, .iconst 0, 1), (90, .istore 6, 2), (92, .iload 6, 2), (94, .aload_n 1, 1), (95, .iconst 0, 1), (96, .iaload, 1), (97, .if_icmp .ge 72, 3), (100, .aload_n 2, 1), (101, .iload 6, 2), (103, .laload, 1), (104, .invokestatic 17, 3), (107, .ifCond .ne 56, 3), (110, .aload_n 2, 1), (111, .iload 6, 2), (113, .laload, 1), (114, .iconst 0, 1), (115, .bipush 9, 2), (117, .invokestatic 11, 3), (120, .iload_n 3, 1), (121, .iconst 4, 1), (122, .iload 4, 2), (124, .imul, 1), (125, .iadd, 1), (126, .if_icmp .ne 37, 3), (129, .aload_n 2, 1), (130, .iload 6, 2), (132, .aload_n 2, 1), (133, .iload 6, 2), (135, .laload, 1)]
theorem DL_lets_40_ok : ∀ q ∈ DL_lets_40, decode cL_lets q.1 = .ok (q.2.1, q.2.2) := by decide +kernel
theorem dL_lets_68 : decode cL_lets 68 = .ok (.invokestatic 58, 3) := dd_all DL_lets_40_ok 0 rfl
theorem dL_lets_71 : decode cL_lets 71 = .ok (.aload_n 0, 1) := dd_all DL_lets_40_ok 1 rfl
theorem dL_lets_72 : decode cL_lets 72 = .ok (.iload_n 3, 1) := dd_all DL_lets_40_ok 2 rfl
theorem dL_lets_73 : decode cL_lets 73 = .ok (.iload 4, 2) := dd_all DL_lets_40_ok 3 rfl
theorem dL_lets_75 : decode cL_lets 75 = .ok (.invokevirtual 72, 3) := dd_all DL_lets_40_ok 4 rfl
theorem dL_lets_78 : decode cL_lets 78 = .ok (.iload 5, 2) := dd_all DL_lets_40_ok 5 rfl
theorem dL_lets_80 : decode cL_lets 80 = .ok (.if_icmp .ne 7, 3) := dd_all DL_lets_40_ok 6 rfl
theorem dL_lets_83 : decode cL_lets 83 = .ok (.iconst 1, 1) := dd_all DL_lets_40_ok 7 rfl
theorem dL_lets_84 : decode cL_lets 84 = .ok (.goto 4, 3) := dd_all DL_lets_40_ok 8 rfl
theorem dL_lets_87 : decode cL_lets 87 = .ok (.iconst 0, 1) := dd_all DL_lets_40_ok 9 rfl
theorem dL_lets_88 : decode cL_lets 88 = .ok (.ireturn, 1) := dd_all DL_lets_40_ok 10 rfl
theorem dL_lets_89 : decode cL_lets 89 = .ok (.iconst 0, 1) := dd_all DL_lets_40_ok 11 rfl
theorem dL_lets_90 : decode cL_lets 90 = .ok (.istore 6, 2) := dd_all DL_lets_40_ok 12 rfl
theorem dL_lets_92 : decode cL_lets 92 = .ok (.iload 6, 2) := dd_all DL_lets_40_ok 13 rfl
theorem dL_lets_94 : decode cL_lets 94 = .ok (.aload_n 1, 1) := dd_all DL_lets_40_ok 14 rfl
theorem dL_lets_95 : decode cL_lets 95 = .ok (.iconst 0, 1) := dd_all DL_lets_40_ok 15 rfl
theorem dL_lets_96 : decode cL_lets 96 = .ok (.iaload, 1) := dd_all DL_lets_40_ok 16 rfl
theorem dL_lets_97 : decode cL_lets 97 = .ok (.if_icmp .ge 72, 3) := dd_all DL_lets_40_ok 17 rfl
theorem dL_lets_100 : decode cL_lets 100 = .ok (.aload_n 2, 1) := dd_all DL_lets_40_ok 18 rfl
theorem dL_lets_101 : decode cL_lets 101 = .ok (.iload 6, 2) := dd_all DL_lets_40_ok 19 rfl
theorem dL_lets_103 : decode cL_lets 103 = .ok (.laload, 1) := dd_all DL_lets_40_ok 20 rfl
theorem dL_lets_104 : decode cL_lets 104 = .ok (.invokestatic 17, 3) := dd_all DL_lets_40_ok 21 rfl
theorem dL_lets_107 : decode cL_lets 107 = .ok (.ifCond .ne 56, 3) := dd_all DL_lets_40_ok 22 rfl
theorem dL_lets_110 : decode cL_lets 110 = .ok (.aload_n 2, 1) := dd_all DL_lets_40_ok 23 rfl
theorem dL_lets_111 : decode cL_lets 111 = .ok (.iload 6, 2) := dd_all DL_lets_40_ok 24 rfl
theorem dL_lets_113 : decode cL_lets 113 = .ok (.laload, 1) := dd_all DL_lets_40_ok 25 rfl
theorem dL_lets_114 : decode cL_lets 114 = .ok (.iconst 0, 1) := dd_all DL_lets_40_ok 26 rfl
theorem dL_lets_115 : decode cL_lets 115 = .ok (.bipush 9, 2) := dd_all DL_lets_40_ok 27 rfl
theorem dL_lets_117 : decode cL_lets 117 = .ok (.invokestatic 11, 3) := dd_all DL_lets_40_ok 28 rfl
theorem dL_lets_120 : decode cL_lets 120 = .ok (.iload_n 3, 1) := dd_all DL_lets_40_ok 29 rfl
theorem dL_lets_121 : decode cL_lets 121 = .ok (.iconst 4, 1) := dd_all DL_lets_40_ok 30 rfl
theorem dL_lets_122 : decode cL_lets 122 = .ok (.iload 4, 2) := dd_all DL_lets_40_ok 31 rfl
theorem dL_lets_124 : decode cL_lets 124 = .ok (.imul, 1) := dd_all DL_lets_40_ok 32 rfl
theorem dL_lets_125 : decode cL_lets 125 = .ok (.iadd, 1) := dd_all DL_lets_40_ok 33 rfl
theorem dL_lets_126 : decode cL_lets 126 = .ok (.if_icmp .ne 37, 3) := dd_all DL_lets_40_ok 34 rfl
theorem dL_lets_129 : decode cL_lets 129 = .ok (.aload_n 2, 1) := dd_all DL_lets_40_ok 35 rfl
theorem dL_lets_130 : decode cL_lets 130 = .ok (.iload 6, 2) := dd_all DL_lets_40_ok 36 rfl
theorem dL_lets_132 : decode cL_lets 132 = .ok (.aload_n 2, 1) := dd_all DL_lets_40_ok 37 rfl
theorem dL_lets_133 : decode cL_lets 133 = .ok (.iload 6, 2) := dd_all DL_lets_40_ok 38 rfl
theorem dL_lets_135 : decode cL_lets 135 = .ok (.laload, 1) := dd_all DL_lets_40_ok 39 rfl
def DL_lets_80 : List (Nat × Instr × Nat) := [(136, .bipush 16, 2), (138, .iconst 3, 1), (139, .bipush 6, 2), (141, .invokestatic 25, 3), (144, .lastore, 1), (145, .aload_n 0, 1), (146, .iload_n 3, 1), (147, .iload 4, 2), (149, .invokevirtual 72, 3), (152, .iload 6, 2), (154, .if_icmp .ne 7, 3), (157, .iconst 1, 1), (158, .goto 4, 3), (161, .iconst 0, 1), (162, .ireturn, 1), (163, .iinc 6 1, 3), (166, .goto (-74), 3), (169, .aload_n 0, 1), (170, .iload_n 3, 1), (171, .iload 4, 2), (173, .invokevirtual 72, 3), (176, .bipush (-2), 2), (178, .if_icmp .ne 7, 3), (181, .iconst 1, 1), (182, .goto 4, 3), (185, .iconst 0, 1), (186, .ireturn, 1)]
theorem DL_lets_80_ok : ∀ q ∈ DL_lets_80, decode cL_lets q.1 = .ok (q.2.1, q.2.2) := by decide +kernel
theorem dL_lets_136 : decode cL_lets 136 = .ok (.bipush 16, 2) := dd_all DL_lets_80_ok 0 rfl
theorem dL_lets_138 : decode cL_lets 138 = .ok (.iconst 3, 1) := dd_all DL_lets_80_ok 1 rfl
theorem dL_lets_139 : decode cL_lets 139 = .ok (.bipush 6, 2) := dd_all DL_lets_80_ok 2 rfl
theorem dL_lets_141 : decode cL_lets 141 = .ok (.invokestatic 25, 3) := dd_all DL_lets_80_ok 3 rfl
theorem dL_lets_144 : decode cL_lets 144 = .ok (.lastore, 1) := dd_all DL_lets_80_ok 4 rfl
theorem dL_lets_145 : decode cL_lets 145 = .ok (.aload_n 0, 1) := dd_all DL_lets_80_ok 5 rfl
theorem dL_lets_146 : decode cL_lets 146 = .ok (.iload_n 3, 1) := dd_all DL_lets_80_ok 6 rfl
theorem dL_lets_147 : decode cL_lets 147 = .ok (.iload 4, 2) := dd_all DL_lets_80_ok 7 rfl
theorem dL_lets_149 : decode cL_lets 149 = .ok (.invokevirtual 72, 3) := dd_all DL_lets_80_ok 8 rfl
theorem dL_lets_152 : decode cL_lets 152 = .ok (.iload 6, 2) := dd_all DL_lets_80_ok 9 rfl
theorem dL_lets_154 : decode cL_lets 154 = .ok (.if_icmp .ne 7, 3) := dd_all DL_lets_80_ok 10 rfl
theorem dL_lets_157 : decode cL_lets 157 = .ok (.iconst 1, 1) := dd_all DL_lets_80_ok 11 rfl
theorem dL_lets_158 : decode cL_lets 158 = .ok (.goto 4, 3) := dd_all DL_lets_80_ok 12 rfl
theorem dL_lets_161 : decode cL_lets 161 = .ok (.iconst 0, 1) := dd_all DL_lets_80_ok 13 rfl
theorem dL_lets_162 : decode cL_lets 162 = .ok (.ireturn, 1) := dd_all DL_lets_80_ok 14 rfl
theorem dL_lets_163 : decode cL_lets 163 = .ok (.iinc 6 1, 3) := dd_all DL_lets_80_ok 15 rfl
theorem dL_lets_166 : decode cL_lets 166 = .ok (.goto (-74), 3) := dd_all DL_lets_80_ok 16 rfl
theorem dL_lets_169 : decode cL_lets 169 = .ok (.aload_n 0, 1) := dd_all DL_lets_80_ok 17 rfl
theorem dL_lets_170 : decode cL_lets 170 = .ok (.iload_n 3, 1) := dd_all DL_lets_80_ok 18 rfl
theorem dL_lets_171 : decode cL_lets 171 = .ok (.iload 4, 2) := dd_all DL_lets_80_ok 19 rfl
theorem dL_lets_173 : decode cL_lets 173 = .ok (.invokevirtual 72, 3) := dd_all DL_lets_80_ok 20 rfl
theorem dL_lets_176 : decode cL_lets 176 = .ok (.bipush (-2), 2) := dd_all DL_lets_80_ok 21 rfl
theorem dL_lets_178 : decode cL_lets 178 = .ok (.if_icmp .ne 7, 3) := dd_all DL_lets_80_ok 22 rfl
theorem dL_lets_181 : decode cL_lets 181 = .ok (.iconst 1, 1) := dd_all DL_lets_80_ok 23 rfl
theorem dL_lets_182 : decode cL_lets 182 = .ok (.goto 4, 3) := dd_all DL_lets_80_ok 24 rfl
theorem dL_lets_185 : decode cL_lets 185 = .ok (.iconst 0, 1) := dd_all DL_lets_80_ok 25 rfl
theorem dL_lets_186 : decode cL_lets 186 = .ok (.ireturn, 1) := dd_all DL_lets_80_ok 26 rfl
def DL_acts_0 : List (Nat × Instr × Nat) := [(0, .iload_n 3, 1), (1, .iconst 5, 1), (2, .ishr, 1), (3, .ldc 75, 2), (5, .invokestatic 76, 3), (8, .istore 4, 2), (10, .iload_n 3, 1), (11, .bipush 20, 2), (13, .invokestatic 76, 3), (16, .istore 5, 2), (18, .iload 4, 2), (20, .iconst 4, 1), (21, .irem, 1), (22, .istore 6, 2), (24, .iload 4, 2), (26, .iconst 4, 1), (27, .idiv, 1), (28, .iconst 3, 1), (29, .irem, 1), (30, .istore 7, 2), (32, .iload 5, 2), (34, .bipush 8, 2), (36, .if_icmp .ge 24, 3), (39, .aload_n 0, 1), (40, .aload_n 1, 1), (41, .aload_n 2, 1), (42, .iload 6, 2), (44, .iload 7, 2), (46, .iconst 1, 1), (47, .iload 4, 2), (49, .bipush 12, 2), (51, .idiv, 1), (52, .bipush 127, 2), (54, .irem, 1), (55, .iadd, 1), (56, .invokestatic 79, 3), (59, .ireturn, 1), (60, .iload 5, 2), (62, .bipush 12, 2), (64, .if_icmp .ge 14, 3)]
theorem DL_acts_0_ok : ∀ q ∈ DL_acts_0, decode cL_acts q.1 = .ok (q.2.1, q.2.2) := by decide +kernel
theorem dL_acts_0 : decode cL_acts 0 = .ok (.iload_n 3, 1) := dd_all DL_acts_0_ok 0 rfl
theorem dL_acts_1 : decode cL_acts 1 = .ok (.iconst 5, 1) := dd_all DL_acts_0_ok 1 rfl
theorem dL_acts_2 : decode cL_acts 2 = .ok (.ishr, 1) := dd_all DL_acts_0_ok 2 rfl
theorem dL_acts_3 : decode cL_acts 3 = .ok (.ldc 75, 2) := dd_all DL_acts_0_ok 3 rfl
theorem dL_acts_5 : decode cL_acts 5 = .ok (.invokestatic 76, 3) := dd_all DL_acts_0_ok 4 rfl
theorem dL_acts_8 : decode cL_acts 8 = .ok (.istore 4, 2) := dd_all DL_acts_0_ok 5 rfl
theorem dL_acts_10 : decode cL_acts 10 = .ok (.iload_n 3, 1) := dd_all DL_acts_0_ok 6 rfl
theorem dL_acts_11 : decode cL_acts 11 = .ok (.bipush 20, 2) := dd_all DL_acts_0_ok 7 rfl
theorem dL_acts_13 : decode cL_acts 13 = .ok (.invokestatic 76, 3) := dd_all DL_acts_0_ok 8 rfl
theorem dL_acts_16 : decode cL_acts 16 = .ok (.istore 5, 2) := dd_all DL_acts_0_ok 9 rfl
theorem dL_acts_18 : decode cL_acts 18 = .ok (.iload 4, 2) := dd_all DL_acts_0_ok 10 rfl
theorem dL_acts_20 : decode cL_acts 20 = .ok (.iconst 4, 1) := dd_all DL_acts_0_ok 11 rfl
theorem dL_acts_21 : decode cL_acts 21 = .ok (.irem, 1) := dd_all DL_acts_0_ok 12 rfl
theorem dL_acts_22 : decode cL_acts 22 = .ok (.istore 6, 2) := dd_all DL_acts_0_ok 13 rfl
theorem dL_acts_24 : decode cL_acts 24 = .ok (.iload 4, 2) := dd_all DL_acts_0_ok 14 rfl
theorem dL_acts_26 : decode cL_acts 26 = .ok (.iconst 4, 1) := dd_all DL_acts_0_ok 15 rfl
theorem dL_acts_27 : decode cL_acts 27 = .ok (.idiv, 1) := dd_all DL_acts_0_ok 16 rfl
theorem dL_acts_28 : decode cL_acts 28 = .ok (.iconst 3, 1) := dd_all DL_acts_0_ok 17 rfl
theorem dL_acts_29 : decode cL_acts 29 = .ok (.irem, 1) := dd_all DL_acts_0_ok 18 rfl
theorem dL_acts_30 : decode cL_acts 30 = .ok (.istore 7, 2) := dd_all DL_acts_0_ok 19 rfl
theorem dL_acts_32 : decode cL_acts 32 = .ok (.iload 5, 2) := dd_all DL_acts_0_ok 20 rfl
theorem dL_acts_34 : decode cL_acts 34 = .ok (.bipush 8, 2) := dd_all DL_acts_0_ok 21 rfl
theorem dL_acts_36 : decode cL_acts 36 = .ok (.if_icmp .ge 24, 3) := dd_all DL_acts_0_ok 22 rfl
theorem dL_acts_39 : decode cL_acts 39 = .ok (.aload_n 0, 1) := dd_all DL_acts_0_ok 23 rfl
theorem dL_acts_40 : decode cL_acts 40 = .ok (.aload_n 1, 1) := dd_all DL_acts_0_ok 24 rfl
theorem dL_acts_41 : decode cL_acts 41 = .ok (.aload_n 2, 1) := dd_all DL_acts_0_ok 25 rfl
theorem dL_acts_42 : decode cL_acts 42 = .ok (.iload 6, 2) := dd_all DL_acts_0_ok 26 rfl
theorem dL_acts_44 : decode cL_acts 44 = .ok (.iload 7, 2) := dd_all DL_acts_0_ok 27 rfl
theorem dL_acts_46 : decode cL_acts 46 = .ok (.iconst 1, 1) := dd_all DL_acts_0_ok 28 rfl
theorem dL_acts_47 : decode cL_acts 47 = .ok (.iload 4, 2) := dd_all DL_acts_0_ok 29 rfl
theorem dL_acts_49 : decode cL_acts 49 = .ok (.bipush 12, 2) := dd_all DL_acts_0_ok 30 rfl
theorem dL_acts_51 : decode cL_acts 51 = .ok (.idiv, 1) := dd_all DL_acts_0_ok 31 rfl
theorem dL_acts_52 : decode cL_acts 52 = .ok (.bipush 127, 2) := dd_all DL_acts_0_ok 32 rfl
theorem dL_acts_54 : decode cL_acts 54 = .ok (.irem, 1) := dd_all DL_acts_0_ok 33 rfl
theorem dL_acts_55 : decode cL_acts 55 = .ok (.iadd, 1) := dd_all DL_acts_0_ok 34 rfl
theorem dL_acts_56 : decode cL_acts 56 = .ok (.invokestatic 79, 3) := dd_all DL_acts_0_ok 35 rfl
theorem dL_acts_59 : decode cL_acts 59 = .ok (.ireturn, 1) := dd_all DL_acts_0_ok 36 rfl
theorem dL_acts_60 : decode cL_acts 60 = .ok (.iload 5, 2) := dd_all DL_acts_0_ok 37 rfl
theorem dL_acts_62 : decode cL_acts 62 = .ok (.bipush 12, 2) := dd_all DL_acts_0_ok 38 rfl
theorem dL_acts_64 : decode cL_acts 64 = .ok (.if_icmp .ge 14, 3) := dd_all DL_acts_0_ok 39 rfl
def DL_acts_40 : List (Nat × Instr × Nat) := [(67, .aload_n 0, 1), (68, .aload_n 1, 1), (69, .aload_n 2, 1), (70, .iload 6, 2), (72, .iload 7, 2), (74, .invokestatic 83, 3), (77, .ireturn, 1), (78, .iload 5, 2), (80, .bipush 12, 2), (82, .if_icmp .ne 69, 3), (85, .iload 4, 2), (87, .iconst 2, 1), (88, .irem, 1), (89, .istore 8, 2), (91, .aload_n 1, 1), (92, .iconst 2, 1), (93, .iaload, 1), (94, .iload 8, 2), (96, .if_icmp .ne 20, 3), (99, .aload_n 0, 1), (100, .iload 8, 2), (102, .invokevirtual 87, 3), (105, .bipush (-2), 2), (107, .if_icmp .ne 7, 3), (110, .iconst 1, 1), (111, .goto 4, 3), (114, .iconst 0, 1), (115, .ireturn, 1), (116, .aload_n 1, 1), (117, .iconst 2, 1), (118, .iload 8, 2), (120, .iastore, 1), (121, .aload_n 0, 1), (122, .iload 8, 2), (124, .invokevirtual 87, 3), (127, .iload 8, 2), (129, .iconst 1, 1), (130, .if_icmp .ne 7, 3), (133, .iconst 0, 1), (134, .goto 8, 3)]
theorem DL_acts_40_ok : ∀ q ∈ DL_acts_40, decode cL_acts q.1 = .ok (q.2.1, q.2.2) := by decide +kernel
theorem dL_acts_67 : decode cL_acts 67 = .ok (.aload_n 0, 1) := dd_all DL_acts_40_ok 0 rfl
theorem dL_acts_68 : decode cL_acts 68 = .ok (.aload_n 1, 1) := dd_all DL_acts_40_ok 1 rfl
theorem dL_acts_69 : decode cL_acts 69 = .ok (.aload_n 2, 1) := dd_all DL_acts_40_ok 2 rfl
theorem dL_acts_70 : decode cL_acts 70 = .ok (.iload 6, 2) := dd_all DL_acts_40_ok 3 rfl
theorem dL_acts_72 : decode cL_acts 72 = .ok (.iload 7, 2) := dd_all DL_acts_40_ok 4 rfl
theorem dL_acts_74 : decode cL_acts 74 = .ok (.invokestatic 83, 3) := dd_all DL_acts_40_ok 5 rfl
theorem dL_acts_77 : decode cL_acts 77 = .ok (.ireturn, 1) := dd_all DL_acts_40_ok 6 rfl
theorem dL_acts_78 : decode cL_acts 78 = .ok (.iload 5, 2) := dd_all DL_acts_40_ok 7 rfl
theorem dL_acts_80 : decode cL_acts 80 = .ok (.bipush 12, 2) := dd_all DL_acts_40_ok 8 rfl
theorem dL_acts_82 : decode cL_acts 82 = .ok (.if_icmp .ne 69, 3) := dd_all DL_acts_40_ok 9 rfl
theorem dL_acts_85 : decode cL_acts 85 = .ok (.iload 4, 2) := dd_all DL_acts_40_ok 10 rfl
theorem dL_acts_87 : decode cL_acts 87 = .ok (.iconst 2, 1) := dd_all DL_acts_40_ok 11 rfl
theorem dL_acts_88 : decode cL_acts 88 = .ok (.irem, 1) := dd_all DL_acts_40_ok 12 rfl
theorem dL_acts_89 : decode cL_acts 89 = .ok (.istore 8, 2) := dd_all DL_acts_40_ok 13 rfl
theorem dL_acts_91 : decode cL_acts 91 = .ok (.aload_n 1, 1) := dd_all DL_acts_40_ok 14 rfl
theorem dL_acts_92 : decode cL_acts 92 = .ok (.iconst 2, 1) := dd_all DL_acts_40_ok 15 rfl
theorem dL_acts_93 : decode cL_acts 93 = .ok (.iaload, 1) := dd_all DL_acts_40_ok 16 rfl
theorem dL_acts_94 : decode cL_acts 94 = .ok (.iload 8, 2) := dd_all DL_acts_40_ok 17 rfl
theorem dL_acts_96 : decode cL_acts 96 = .ok (.if_icmp .ne 20, 3) := dd_all DL_acts_40_ok 18 rfl
theorem dL_acts_99 : decode cL_acts 99 = .ok (.aload_n 0, 1) := dd_all DL_acts_40_ok 19 rfl
theorem dL_acts_100 : decode cL_acts 100 = .ok (.iload 8, 2) := dd_all DL_acts_40_ok 20 rfl
theorem dL_acts_102 : decode cL_acts 102 = .ok (.invokevirtual 87, 3) := dd_all DL_acts_40_ok 21 rfl
theorem dL_acts_105 : decode cL_acts 105 = .ok (.bipush (-2), 2) := dd_all DL_acts_40_ok 22 rfl
theorem dL_acts_107 : decode cL_acts 107 = .ok (.if_icmp .ne 7, 3) := dd_all DL_acts_40_ok 23 rfl
theorem dL_acts_110 : decode cL_acts 110 = .ok (.iconst 1, 1) := dd_all DL_acts_40_ok 24 rfl
theorem dL_acts_111 : decode cL_acts 111 = .ok (.goto 4, 3) := dd_all DL_acts_40_ok 25 rfl
theorem dL_acts_114 : decode cL_acts 114 = .ok (.iconst 0, 1) := dd_all DL_acts_40_ok 26 rfl
theorem dL_acts_115 : decode cL_acts 115 = .ok (.ireturn, 1) := dd_all DL_acts_40_ok 27 rfl
theorem dL_acts_116 : decode cL_acts 116 = .ok (.aload_n 1, 1) := dd_all DL_acts_40_ok 28 rfl
theorem dL_acts_117 : decode cL_acts 117 = .ok (.iconst 2, 1) := dd_all DL_acts_40_ok 29 rfl
theorem dL_acts_118 : decode cL_acts 118 = .ok (.iload 8, 2) := dd_all DL_acts_40_ok 30 rfl
theorem dL_acts_120 : decode cL_acts 120 = .ok (.iastore, 1) := dd_all DL_acts_40_ok 31 rfl
theorem dL_acts_121 : decode cL_acts 121 = .ok (.aload_n 0, 1) := dd_all DL_acts_40_ok 32 rfl
theorem dL_acts_122 : decode cL_acts 122 = .ok (.iload 8, 2) := dd_all DL_acts_40_ok 33 rfl
theorem dL_acts_124 : decode cL_acts 124 = .ok (.invokevirtual 87, 3) := dd_all DL_acts_40_ok 34 rfl
theorem dL_acts_127 : decode cL_acts 127 = .ok (.iload 8, 2) := dd_all DL_acts_40_ok 35 rfl
theorem dL_acts_129 : decode cL_acts 129 = .ok (.iconst 1, 1) := dd_all DL_acts_40_ok 36 rfl
theorem dL_acts_130 : decode cL_acts 130 = .ok (.if_icmp .ne 7, 3) := dd_all DL_acts_40_ok 37 rfl
theorem dL_acts_133 : decode cL_acts 133 = .ok (.iconst 0, 1) := dd_all DL_acts_40_ok 38 rfl
theorem dL_acts_134 : decode cL_acts 134 = .ok (.goto 8, 3) := dd_all DL_acts_40_ok 39 rfl
def DL_acts_80 : List (Nat × Instr × Nat) := [(137, .aload_n 1, 1), (138, .aload_n 2, 1), (139, .invokestatic 91, 3), (142, .if_icmp .ne 7, 3), (145, .iconst 1, 1), (146, .goto 4, 3), (149, .iconst 0, 1), (150, .ireturn, 1), (151, .iload 5, 2), (153, .bipush 13, 2), (155, .if_icmp .ne 92, 3), (158, .iload 4, 2), (160, .iconst 3, 1), (161, .irem, 1), (162, .istore 8, 2), (164, .aload_n 1, 1), (165, .bipush 6, 2), (167, .iload 8, 2), (169, .iadd, 1), (170, .iaload, 1), (171, .istore 9, 2), (173, .aload_n 1, 1), (174, .bipush 6, 2), (176, .iload 8, 2), (178, .iadd, 1), (179, .iload 8, 2), (181, .ifCond .ne 15, 3), (184, .iconst 1, 1), (185, .iload 4, 2), (187, .iconst 3, 1), (188, .idiv, 1), (189, .bipush 8, 2), (191, .irem, 1), (192, .iadd, 1), (193, .goto 29, 3), (196, .iload 8, 2), (198, .iconst 1, 1), (199, .if_icmp .ne 12, 3), (202, .iload 4, 2), (204, .iconst 3, 1)]
theorem DL_acts_80_ok : ∀ q ∈ DL_acts_80, decode cL_acts q.1 = .ok (q.2.1, q.2.2) := by decide +kernel
theorem dL_acts_137 : decode cL_acts 137 = .ok (.aload_n 1, 1) := dd_all DL_acts_80_ok 0 rfl
theorem dL_acts_138 : decode cL_acts 138 = .ok (.aload_n 2, 1) := dd_all DL_acts_80_ok 1 rfl
theorem dL_acts_139 : decode cL_acts 139 = .ok (.invokestatic 91, 3) := dd_all DL_acts_80_ok 2 rfl
theorem dL_acts_142 : decode cL_acts 142 = .ok (.if_icmp .ne 7, 3) := dd_all DL_acts_80_ok 3 rfl
theorem dL_acts_145 : decode cL_acts 145 = .ok (.iconst 1, 1) := dd_all DL_acts_80_ok 4 rfl
theorem dL_acts_146 : decode cL_acts 146 = .ok (.goto 4, 3) := dd_all DL_acts_80_ok 5 rfl
theorem dL_acts_149 : decode cL_acts 149 = .ok (.iconst 0, 1) := dd_all DL_acts_80_ok 6 rfl
theorem dL_acts_150 : decode cL_acts 150 = .ok (.ireturn, 1) := dd_all DL_acts_80_ok 7 rfl
theorem dL_acts_151 : decode cL_acts 151 = .ok (.iload 5, 2) := dd_all DL_acts_80_ok 8 rfl
theorem dL_acts_153 : decode cL_acts 153 = .ok (.bipush 13, 2) := dd_all DL_acts_80_ok 9 rfl
theorem dL_acts_155 : decode cL_acts 155 = .ok (.if_icmp .ne 92, 3) := dd_all DL_acts_80_ok 10 rfl
theorem dL_acts_158 : decode cL_acts 158 = .ok (.iload 4, 2) := dd_all DL_acts_80_ok 11 rfl
theorem dL_acts_160 : decode cL_acts 160 = .ok (.iconst 3, 1) := dd_all DL_acts_80_ok 12 rfl
theorem dL_acts_161 : decode cL_acts 161 = .ok (.irem, 1) := dd_all DL_acts_80_ok 13 rfl
theorem dL_acts_162 : decode cL_acts 162 = .ok (.istore 8, 2) := dd_all DL_acts_80_ok 14 rfl
theorem dL_acts_164 : decode cL_acts 164 = .ok (.aload_n 1, 1) := dd_all DL_acts_80_ok 15 rfl
theorem dL_acts_165 : decode cL_acts 165 = .ok (.bipush 6, 2) := dd_all DL_acts_80_ok 16 rfl
theorem dL_acts_167 : decode cL_acts 167 = .ok (.iload 8, 2) := dd_all DL_acts_80_ok 17 rfl
theorem dL_acts_169 : decode cL_acts 169 = .ok (.iadd, 1) := dd_all DL_acts_80_ok 18 rfl
theorem dL_acts_170 : decode cL_acts 170 = .ok (.iaload, 1) := dd_all DL_acts_80_ok 19 rfl
theorem dL_acts_171 : decode cL_acts 171 = .ok (.istore 9, 2) := dd_all DL_acts_80_ok 20 rfl
theorem dL_acts_173 : decode cL_acts 173 = .ok (.aload_n 1, 1) := dd_all DL_acts_80_ok 21 rfl
theorem dL_acts_174 : decode cL_acts 174 = .ok (.bipush 6, 2) := dd_all DL_acts_80_ok 22 rfl
theorem dL_acts_176 : decode cL_acts 176 = .ok (.iload 8, 2) := dd_all DL_acts_80_ok 23 rfl
theorem dL_acts_178 : decode cL_acts 178 = .ok (.iadd, 1) := dd_all DL_acts_80_ok 24 rfl
theorem dL_acts_179 : decode cL_acts 179 = .ok (.iload 8, 2) := dd_all DL_acts_80_ok 25 rfl
theorem dL_acts_181 : decode cL_acts 181 = .ok (.ifCond .ne 15, 3) := dd_all DL_acts_80_ok 26 rfl
theorem dL_acts_184 : decode cL_acts 184 = .ok (.iconst 1, 1) := dd_all DL_acts_80_ok 27 rfl
theorem dL_acts_185 : decode cL_acts 185 = .ok (.iload 4, 2) := dd_all DL_acts_80_ok 28 rfl
theorem dL_acts_187 : decode cL_acts 187 = .ok (.iconst 3, 1) := dd_all DL_acts_80_ok 29 rfl
theorem dL_acts_188 : decode cL_acts 188 = .ok (.idiv, 1) := dd_all DL_acts_80_ok 30 rfl
theorem dL_acts_189 : decode cL_acts 189 = .ok (.bipush 8, 2) := dd_all DL_acts_80_ok 31 rfl
theorem dL_acts_191 : decode cL_acts 191 = .ok (.irem, 1) := dd_all DL_acts_80_ok 32 rfl
theorem dL_acts_192 : decode cL_acts 192 = .ok (.iadd, 1) := dd_all DL_acts_80_ok 33 rfl
theorem dL_acts_193 : decode cL_acts 193 = .ok (.goto 29, 3) := dd_all DL_acts_80_ok 34 rfl
theorem dL_acts_196 : decode cL_acts 196 = .ok (.iload 8, 2) := dd_all DL_acts_80_ok 35 rfl
theorem dL_acts_198 : decode cL_acts 198 = .ok (.iconst 1, 1) := dd_all DL_acts_80_ok 36 rfl
theorem dL_acts_199 : decode cL_acts 199 = .ok (.if_icmp .ne 12, 3) := dd_all DL_acts_80_ok 37 rfl
theorem dL_acts_202 : decode cL_acts 202 = .ok (.iload 4, 2) := dd_all DL_acts_80_ok 38 rfl
theorem dL_acts_204 : decode cL_acts 204 = .ok (.iconst 3, 1) := dd_all DL_acts_80_ok 39 rfl
def DL_acts_120 : List (Nat × Instr × Nat) := [(205, .idiv, 1), (206, .iconst 3, 1), (207, .irem, 1), (208, .goto 14, 3), (211, .bipush 100, 2), (213, .iload 4, 2), (215, .iconst 3, 1), (216, .idiv, 1), (217, .sipush 2500, 3), (220, .irem, 1), (221, .iadd, 1), (222, .iastore, 1), (223, .aload_n 0, 1), (224, .iload 8, 2), (226, .aload_n 1, 1), (227, .bipush 6, 2), (229, .iload 8, 2), (231, .iadd, 1), (232, .iaload, 1), (233, .invokevirtual 94, 3), (236, .iload 9, 2), (238, .if_icmp .ne 7, 3), (241, .iconst 1, 1), (242, .goto 4, 3), (245, .iconst 0, 1), (246, .ireturn, 1), (247, .iconst 1, 1), (248, .iload 4, 2), (250, .iload 4, 2), (252, .bipush 7, 2), (254, .irem, 1), (255, .ifCond .ne 8, 3), (258, .bipush 20, 2), (260, .goto 4, 3), (263, .iconst 4, 1), (264, .irem, 1), (265, .iadd, 1), (266, .istore 8, 2), (268, .iconst 0, 1), (269, .istore 9, 2)]
theorem DL_acts_120_ok : ∀ q ∈ DL_acts_120, decode cL_acts q.1 = .ok (q.2.1, q.2.2) := by decide +kernel
theorem dL_acts_205 : decode cL_acts 205 = .ok (.idiv, 1) := dd_all DL_acts_120_ok 0 rfl
theorem dL_acts_206 : decode cL_acts 206 = .ok (.iconst 3, 1) := dd_all DL_acts_120_ok 1 rfl
theorem dL_acts_207 : decode cL_acts 207 = .ok (.irem, 1) := dd_all DL_acts_120_ok 2 rfl
theorem dL_acts_208 : decode cL_acts 208 = .ok (.goto 14, 3) := dd_all DL_acts_120_ok 3 rfl
theorem dL_acts_211 : decode cL_acts 211 = .ok (.bipush 100, 2) := dd_all DL_acts_120_ok 4 rfl
theorem dL_acts_213 : decode cL_acts 213 = .ok (.iload 4, 2) := dd_all DL_acts_120_ok 5 rfl
theorem dL_acts_215 : decode cL_acts 215 = .ok (.iconst 3, 1) := dd_all DL_acts_120_ok 6 rfl
theorem dL_acts_216 : decode cL_acts 216 = .ok (.idiv, 1) := dd_all DL_acts_120_ok 7 rfl
theorem dL_acts_217 : decode cL_acts 217 = .ok (.sipush 2500, 3) := dd_all DL_acts_120_ok 8 rfl
theorem dL_acts_220 : decode cL_acts 220 = .ok (.irem, 1) := dd_all DL_acts_120_ok 9 rfl
theorem dL_acts_221 : decode cL_acts 221 = .ok (.iadd, 1) := dd_all DL_acts_120_ok 10 rfl
theorem dL_acts_222 : decode cL_acts 222 = .ok (.iastore, 1) := dd_all DL_acts_120_ok 11 rfl
theorem dL_acts_223 : decode cL_acts 223 = .ok (.aload_n 0, 1) := dd_all DL_acts_120_ok 12 rfl
theorem dL_acts_224 : decode cL_acts 224 = .ok (.iload 8, 2) := dd_all DL_acts_120_ok 13 rfl
theorem dL_acts_226 : decode cL_acts 226 = .ok (.aload_n 1, 1) := dd_all DL_acts_120_ok 14 rfl
theorem dL_acts_227 : decode cL_acts 227 = .ok (.bipush 6, 2) := dd_all DL_acts_120_ok 15 rfl
theorem dL_acts_229 : decode cL_acts 229 = .ok (.iload 8, 2) := dd_all DL_acts_120_ok 16 rfl
theorem dL_acts_231 : decode cL_acts 231 = .ok (.iadd, 1) := dd_all DL_acts_120_ok 17 rfl
theorem dL_acts_232 : decode cL_acts 232 = .ok (.iaload, 1) := dd_all DL_acts_120_ok 18 rfl
theorem dL_acts_233 : decode cL_acts 233 = .ok (.invokevirtual 94, 3) := dd_all DL_acts_120_ok 19 rfl
theorem dL_acts_236 : decode cL_acts 236 = .ok (.iload 9, 2) := dd_all DL_acts_120_ok 20 rfl
theorem dL_acts_238 : decode cL_acts 238 = .ok (.if_icmp .ne 7, 3) := dd_all DL_acts_120_ok 21 rfl
theorem dL_acts_241 : decode cL_acts 241 = .ok (.iconst 1, 1) := dd_all DL_acts_120_ok 22 rfl
theorem dL_acts_242 : decode cL_acts 242 = .ok (.goto 4, 3) := dd_all DL_acts_120_ok 23 rfl
theorem dL_acts_245 : decode cL_acts 245 = .ok (.iconst 0, 1) := dd_all DL_acts_120_ok 24 rfl
theorem dL_acts_246 : decode cL_acts 246 = .ok (.ireturn, 1) := dd_all DL_acts_120_ok 25 rfl
theorem dL_acts_247 : decode cL_acts 247 = .ok (.iconst 1, 1) := dd_all DL_acts_120_ok 26 rfl
theorem dL_acts_248 : decode cL_acts 248 = .ok (.iload 4, 2) := dd_all DL_acts_120_ok 27 rfl
theorem dL_acts_250 : decode cL_acts 250 = .ok (.iload 4, 2) := dd_all DL_acts_120_ok 28 rfl
theorem dL_acts_252 : decode cL_acts 252 = .ok (.bipush 7, 2) := dd_all DL_acts_120_ok 29 rfl
theorem dL_acts_254 : decode cL_acts 254 = .ok (.irem, 1) := dd_all DL_acts_120_ok 30 rfl
theorem dL_acts_255 : decode cL_acts 255 = .ok (.ifCond .ne 8, 3) := dd_all DL_acts_120_ok 31 rfl
theorem dL_acts_258 : decode cL_acts 258 = .ok (.bipush 20, 2) := dd_all DL_acts_120_ok 32 rfl
theorem dL_acts_260 : decode cL_acts 260 = .ok (.goto 4, 3) := dd_all DL_acts_120_ok 33 rfl
theorem dL_acts_263 : decode cL_acts 263 = .ok (.iconst 4, 1) := dd_all DL_acts_120_ok 34 rfl
theorem dL_acts_264 : decode cL_acts 264 = .ok (.irem, 1) := dd_all DL_acts_120_ok 35 rfl
theorem dL_acts_265 : decode cL_acts 265 = .ok (.iadd, 1) := dd_all DL_acts_120_ok 36 rfl
theorem dL_acts_266 : decode cL_acts 266 = .ok (.istore 8, 2) := dd_all DL_acts_120_ok 37 rfl
theorem dL_acts_268 : decode cL_acts 268 = .ok (.iconst 0, 1) := dd_all DL_acts_120_ok 38 rfl
theorem dL_acts_269 : decode cL_acts 269 = .ok (.istore 9, 2) := dd_all DL_acts_120_ok 39 rfl
def DL_acts_160 : List (Nat × Instr × Nat) := [(271, .iload 9, 2), (273, .iload 8, 2), (275, .if_icmp .ge 14, 3), (278, .aload_n 1, 1), (279, .aload_n 2, 1), (280, .invokestatic 97, 3), (283, .iinc 9 1, 3), (286, .goto (-15), 3), (289, .aload_n 0, 1), (290, .iload 8, 2), (292, .invokevirtual 101, 3), (295, .aload_n 1, 1), (296, .aload_n 2, 1), (297, .invokestatic 103, 3), (300, .if_icmp .ne 7, 3), (303, .iconst 1, 1), (304, .goto 4, 3), (307, .iconst 0, 1), (308, .ireturn, 1)]
theorem DL_acts_160_ok : ∀ q ∈ DL_acts_160, decode cL_acts q.1 = .ok (q.2.1, q.2.2) := by decide +kernel
theorem dL_acts_271 : decode cL_acts 271 = .ok (.iload 9, 2) := dd_all DL_acts_160_ok 0 rfl
theorem dL_acts_273 : decode cL_acts 273 = .ok (.iload 8, 2) := dd_all DL_acts_160_ok 1 rfl
theorem dL_acts_275 : decode cL_acts 275 = .ok (.if_icmp .ge 14, 3) := dd_all DL_acts_160_ok 2 rfl
theorem dL_acts_278 : decode cL_acts 278 = .ok (.aload_n 1, 1) := dd_all DL_acts_160_ok 3 rfl
theorem dL_acts_279 : decode cL_acts 279 = .ok (.aload_n 2, 1) := dd_all DL_acts_160_ok 4 rfl
theorem dL_acts_280 : decode cL_acts 280 = .ok (.invokestatic 97, 3) := dd_all DL_acts_160_ok 5 rfl
theorem dL_acts_283 : decode cL_acts 283 = .ok (.iinc 9 1, 3) := dd_all DL_acts_160_ok 6 rfl
theorem dL_acts_286 : decode cL_acts 286 = .ok (.goto (-15), 3) := dd_all DL_acts_160_ok 7 rfl
theorem dL_acts_289 : decode cL_acts 289 = .ok (.aload_n 0, 1) := dd_all DL_acts_160_ok 8 rfl
theorem dL_acts_290 : decode cL_acts 290 = .ok (.iload 8, 2) := dd_all DL_acts_160_ok 9 rfl
theorem dL_acts_292 : decode cL_acts 292 = .ok (.invokevirtual 101, 3) := dd_all DL_acts_160_ok 10 rfl
theorem dL_acts_295 : decode cL_acts 295 = .ok (.aload_n 1, 1) := dd_all DL_acts_160_ok 11 rfl
theorem dL_acts_296 : decode cL_acts 296 = .ok (.aload_n 2, 1) := dd_all DL_acts_160_ok 12 rfl
theorem dL_acts_297 : decode cL_acts 297 = .ok (.invokestatic 103, 3) := dd_all DL_acts_160_ok 13 rfl
theorem dL_acts_300 : decode cL_acts 300 = .ok (.if_icmp .ne 7, 3) := dd_all DL_acts_160_ok 14 rfl
theorem dL_acts_303 : decode cL_acts 303 = .ok (.iconst 1, 1) := dd_all DL_acts_160_ok 15 rfl
theorem dL_acts_304 : decode cL_acts 304 = .ok (.goto 4, 3) := dd_all DL_acts_160_ok 16 rfl
theorem dL_acts_307 : decode cL_acts 307 = .ok (.iconst 0, 1) := dd_all DL_acts_160_ok 17 rfl
theorem dL_acts_308 : decode cL_acts 308 = .ok (.ireturn, 1) := dd_all DL_acts_160_ok 18 rfl
def DL_isSo_0 : List (Nat × Instr × Nat) := [(0, .aload_n 1, 1), (1, .aload_n 2, 1), (2, .invokestatic 103, 3), (5, .istore_n 3, 1), (6, .iconst 0, 1), (7, .istore 4, 2), (9, .iconst 0, 1), (10, .istore 5, 2), (12, .bipush 20, 2), (14, .newarray .int, 2), (16, .astore 6, 2), (18, .iconst 1, 1), (19, .istore 7, 2), (21, .iconst 0, 1), (22, .istore 8, 2), (24, .iload 8, 2), (26, .aload_n 1, 1), (27, .iconst 0, 1), (28, .iaload, 1), (29, .if_icmp .ge 399, 3), (32, .iload 7, 2), (34, .ifCond .eq 394, 3), (37, .aload_n 2, 1), (38, .iload 8, 2), (40, .laload, 1), (41, .invokestatic 17, 3), (44, .istore 9, 2), (46, .aload_n 2, 1), (47, .iload 8, 2), (49, .laload, 1), (50, .invokestatic 29, 3), (53, .istore 10, 2), (55, .iload 9, 2), (57, .ifCond .le 14, 3), (60, .iload 9, 2), (62, .bipush 6, 2), (64, .if_icmp .ge 7, 3), (67, .iconst 1, 1), (68, .goto 4, 3), (71, .iconst 0, 1)]
theorem DL_isSo_0_ok : ∀ q ∈ DL_isSo_0, decode cL_isSo q.1 = .ok (q.2.1, q.2.2) := by decide +kernel
theorem dL_isSo_0 : decode cL_isSo 0 = .ok (.aload_n 1, 1) := dd_all DL_isSo_0_ok 0 rfl
theorem dL_isSo_1 : decode cL_isSo 1 = .ok (.aload_n 2, 1) := dd_all DL_isSo_0_ok 1 rfl
theorem dL_isSo_2 : decode cL_isSo 2 = .ok (.invokestatic 103, 3) := dd_all DL_isSo_0_ok 2 rfl
theorem dL_isSo_5 : decode cL_isSo 5 = .ok (.istore_n 3, 1) := dd_all DL_isSo_0_ok 3 rfl
theorem dL_isSo_6 : decode cL_isSo 6 = .ok (.iconst 0, 1) := dd_all DL_isSo_0_ok 4 rfl
theorem dL_isSo_7 : decode cL_isSo 7 = .ok (.istore 4, 2) := dd_all DL_isSo_0_ok 5 rfl
theorem dL_isSo_9 : decode cL_isSo 9 = .ok (.iconst 0, 1) := dd_all DL_isSo_0_ok 6 rfl
theorem dL_isSo_10 : decode cL_isSo 10 = .ok (.istore 5, 2) := dd_all DL_isSo_0_ok 7 rfl
theorem dL_isSo_12 : decode cL_isSo 12 = .ok (.bipush 20, 2) := dd_all DL_isSo_0_ok 8 rfl
theorem dL_isSo_14 : decode cL_isSo 14 = .ok (.newarray .int, 2) := dd_all DL_isSo_0_ok 9 rfl
theorem dL_isSo_16 : decode cL_isSo 16 = .ok (.astore 6, 2) := dd_all DL_isSo_0_ok 10 rfl
theorem dL_isSo_18 : decode cL_isSo 18 = .ok (.iconst 1, 1) := dd_all DL_isSo_0_ok 11 rfl
theorem dL_isSo_19 : decode cL_isSo 19 = .ok (.istore 7, 2) := dd_all DL_isSo_0_ok 12 rfl
theorem dL_isSo_21 : decode cL_isSo 21 = .ok (.iconst 0, 1) := dd_all DL_isSo_0_ok 13 rfl
theorem dL_isSo_22 : decode cL_isSo 22 = .ok (.istore 8, 2) := dd_all DL_isSo_0_ok 14 rfl
theorem dL_isSo_24 : decode cL_isSo 24 = .ok (.iload 8, 2) := dd_all DL_isSo_0_ok 15 rfl
theorem dL_isSo_26 : decode cL_isSo 26 = .ok (.aload_n 1, 1) := dd_all DL_isSo_0_ok 16 rfl
theorem dL_isSo_27 : decode cL_isSo 27 = .ok (.iconst 0, 1) := dd_all DL_isSo_0_ok 17 rfl
theorem dL_isSo_28 : decode cL_isSo 28 = .ok (.iaload, 1) := dd_all DL_isSo_0_ok 18 rfl
theorem dL_isSo_29 : decode cL_isSo 29 = .ok (.if_icmp .ge 399, 3) := dd_all DL_isSo_0_ok 19 rfl
theorem dL_isSo_32 : decode cL_isSo 32 = .ok (.iload 7, 2) := dd_all DL_isSo_0_ok 20 rfl
theorem dL_isSo_34 : decode cL_isSo 34 = .ok (.ifCond .eq 394, 3) := dd_all DL_isSo_0_ok 21 rfl
theorem dL_isSo_37 : decode cL_isSo 37 = .ok (.aload_n 2, 1) := dd_all DL_isSo_0_ok 22 rfl
theorem dL_isSo_38 : decode cL_isSo 38 = .ok (.iload 8, 2) := dd_all DL_isSo_0_ok 23 rfl
theorem dL_isSo_40 : decode cL_isSo 40 = .ok (.laload, 1) := dd_all DL_isSo_0_ok 24 rfl
theorem dL_isSo_41 : decode cL_isSo 41 = .ok (.invokestatic 17, 3) := dd_all DL_isSo_0_ok 25 rfl
theorem dL_isSo_44 : decode cL_isSo 44 = .ok (.istore 9, 2) := dd_all DL_isSo_0_ok 26 rfl
theorem dL_isSo_46 : decode cL_isSo 46 = .ok (.aload_n 2, 1) := dd_all DL_isSo_0_ok 27 rfl
theorem dL_isSo_47 : decode cL_isSo 47 = .ok (.iload 8, 2) := dd_all DL_isSo_0_ok 28 rfl
theorem dL_isSo_49 : decode cL_isSo 49 = .ok (.laload, 1) := dd_all DL_isSo_0_ok 29 rfl
theorem dL_isSo_50 : decode cL_isSo 50 = .ok (.invokestatic 29, 3) := dd_all DL_isSo_0_ok 30 rfl
theorem dL_isSo_53 : decode cL_isSo 53 = .ok (.istore 10, 2) := dd_all DL_isSo_0_ok 31 rfl
theorem dL_isSo_55 : decode cL_isSo 55 = .ok (.iload 9, 2) := dd_all DL_isSo_0_ok 32 rfl
theorem dL_isSo_57 : decode cL_isSo 57 = .ok (.ifCond .le 14, 3) := dd_all DL_isSo_0_ok 33 rfl
theorem dL_isSo_60 : decode cL_isSo 60 = .ok (.iload 9, 2) := dd_all DL_isSo_0_ok 34 rfl
theorem dL_isSo_62 : decode cL_isSo 62 = .ok (.bipush 6, 2) := dd_all DL_isSo_0_ok 35 rfl
theorem dL_isSo_64 : decode cL_isSo 64 = .ok (.if_icmp .ge 7, 3) := dd_all DL_isSo_0_ok 36 rfl
theorem dL_isSo_67 : decode cL_isSo 67 = .ok (.iconst 1, 1) := dd_all DL_isSo_0_ok 37 rfl
theorem dL_isSo_68 : decode cL_isSo 68 = .ok (.goto 4, 3) := dd_all DL_isSo_0_ok 38 rfl
theorem dL_isSo_71 : decode cL_isSo 71 = .ok (.iconst 0, 1) := dd_all DL_isSo_0_ok 39 rfl
def DL_isSo_40 : List (Nat × Instr × Nat) := [(72, .istore 11, 2), (74, .iload_n 3, 1), (75, .aload_n 1, 1), (76, .bipush 8, 2), (78, .iaload, 1), (79, .if_icmp .gt 8, 3), (82, .iload 10, 2), (84, .goto 12, 3), (87, .iload 10, 2), (89, .aload_n 1, 1), (90, .bipush 8, 2), (92, .iaload, 1), (93, .imul, 1), (94, .iload_n 3, 1), (95, .idiv, 1), (96, .istore 12, 2), (98, .iconst 5, 1), (99, .aload_n 2, 1), (100, .iload 8, 2), (102, .laload, 1), (103, .iconst 0, 1), (104, .iconst 2, 1), (105, .invokestatic 11, 3), (108, .imul, 1), (109, .istore 13, 2), (111, .aload 6, 2), (113, .iload 13, 2), (115, .dup2, 1), (116, .iaload, 1), (117, .aload_n 2, 1), (118, .iload 8, 2), (120, .laload, 1), (121, .invokestatic 21, 3), (124, .ifCond .eq 7, 3), (127, .iconst 1, 1), (128, .goto 4, 3), (131, .iconst 0, 1), (132, .iadd, 1), (133, .iastore, 1), (134, .aload 6, 2)]
theorem DL_isSo_40_ok : ∀ q ∈ DL_isSo_40, decode cL_isSo q.1 = .ok (q.2.1, q.2.2) := by decide +kernel
theorem dL_isSo_72 : decode cL_isSo 72 = .ok (.istore 11, 2) := dd_all DL_isSo_40_ok 0 rfl
theorem dL_isSo_74 : decode cL_isSo 74 = .ok (.iload_n 3, 1) := dd_all DL_isSo_40_ok 1 rfl
theorem dL_isSo_75 : decode cL_isSo 75 = .ok (.aload_n 1, 1) := dd_all DL_isSo_40_ok 2 rfl
theorem dL_isSo_76 : decode cL_isSo 76 = .ok (.bipush 8, 2) := dd_all DL_isSo_40_ok 3 rfl
theorem dL_isSo_78 : decode cL_isSo 78 = .ok (.iaload, 1) := dd_all DL_isSo_40_ok 4 rfl
theorem dL_isSo_79 : decode cL_isSo 79 = .ok (.if_icmp .gt 8, 3) := dd_all DL_isSo_40_ok 5 rfl
theorem dL_isSo_82 : decode cL_isSo 82 = .ok (.iload 10, 2) := dd_all DL_isSo_40_ok 6 rfl
theorem dL_isSo_84 : decode cL_isSo 84 = .ok (.goto 12, 3) := dd_all DL_isSo_40_ok 7 rfl
theorem dL_isSo_87 : decode cL_isSo 87 = .ok (.iload 10, 2) := dd_all DL_isSo_40_ok 8 rfl
theorem dL_isSo_89 : decode cL_isSo 89 = .ok (.aload_n 1, 1) := dd_all DL_isSo_40_ok 9 rfl
theorem dL_isSo_90 : decode cL_isSo 90 = .ok (.bipush 8, 2) := dd_all DL_isSo_40_ok 10 rfl
theorem dL_isSo_92 : decode cL_isSo 92 = .ok (.iaload, 1) := dd_all DL_isSo_40_ok 11 rfl
theorem dL_isSo_93 : decode cL_isSo 93 = .ok (.imul, 1) := dd_all DL_isSo_40_ok 12 rfl
theorem dL_isSo_94 : decode cL_isSo 94 = .ok (.iload_n 3, 1) := dd_all DL_isSo_40_ok 13 rfl
theorem dL_isSo_95 : decode cL_isSo 95 = .ok (.idiv, 1) := dd_all DL_isSo_40_ok 14 rfl
theorem dL_isSo_96 : decode cL_isSo 96 = .ok (.istore 12, 2) := dd_all DL_isSo_40_ok 15 rfl
theorem dL_isSo_98 : decode cL_isSo 98 = .ok (.iconst 5, 1) := dd_all DL_isSo_40_ok 16 rfl
theorem dL_isSo_99 : decode cL_isSo 99 = .ok (.aload_n 2, 1) := dd_all DL_isSo_40_ok 17 rfl
theorem dL_isSo_100 : decode cL_isSo 100 = .ok (.iload 8, 2) := dd_all DL_isSo_40_ok 18 rfl
theorem dL_isSo_102 : decode cL_isSo 102 = .ok (.laload, 1) := dd_all DL_isSo_40_ok 19 rfl
theorem dL_isSo_103 : decode cL_isSo 103 = .ok (.iconst 0, 1) := dd_all DL_isSo_40_ok 20 rfl
theorem dL_isSo_104 : decode cL_isSo 104 = .ok (.iconst 2, 1) := dd_all DL_isSo_40_ok 21 rfl
theorem dL_isSo_105 : decode cL_isSo 105 = .ok (.invokestatic 11, 3) := dd_all DL_isSo_40_ok 22 rfl
theorem dL_isSo_108 : decode cL_isSo 108 = .ok (.imul, 1) := dd_all DL_isSo_40_ok 23 rfl
theorem dL_isSo_109 : decode cL_isSo 109 = .ok (.istore 13, 2) := dd_all DL_isSo_40_ok 24 rfl
theorem dL_isSo_111 : decode cL_isSo 111 = .ok (.aload 6, 2) := dd_all DL_isSo_40_ok 25 rfl
theorem dL_isSo_113 : decode cL_isSo 113 = .ok (.iload 13, 2) := dd_all DL_isSo_40_ok 26 rfl
theorem dL_isSo_115 : decode cL_isSo 115 = .ok (.dup2, 1) := dd_all DL_isSo_40_ok 27 rfl
theorem dL_isSo_116 : decode cL_isSo 116 = .ok (.iaload, 1) := dd_all DL_isSo_40_ok 28 rfl
theorem dL_isSo_117 : decode cL_isSo 117 = .ok (.aload_n 2, 1) := dd_all DL_isSo_40_ok 29 rfl
theorem dL_isSo_118 : decode cL_isSo 118 = .ok (.iload 8, 2) := dd_all DL_isSo_40_ok 30 rfl
theorem dL_isSo_120 : decode cL_isSo 120 = .ok (.laload, 1) := dd_all DL_isSo_40_ok 31 rfl
theorem dL_isSo_121 : decode cL_isSo 121 = .ok (.invokestatic 21, 3) := dd_all DL_isSo_40_ok 32 rfl
theorem dL_isSo_124 : decode cL_isSo 124 = .ok (.ifCond .eq 7, 3) := dd_all DL_isSo_40_ok 33 rfl
theorem dL_isSo_127 : decode cL_isSo 127 = .ok (.iconst 1, 1) := dd_all DL_isSo_40_ok 34 rfl
theorem dL_isSo_128 : decode cL_isSo 128 = .ok (.goto 4, 3) := dd_all DL_isSo_40_ok 35 rfl
theorem dL_isSo_131 : decode cL_isSo 131 = .ok (.iconst 0, 1) := dd_all DL_isSo_40_ok 36 rfl
theorem dL_isSo_132 : decode cL_isSo 132 = .ok (.iadd, 1) := dd_all DL_isSo_40_ok 37 rfl
theorem dL_isSo_133 : decode cL_isSo 133 = .ok (.iastore, 1) := dd_all DL_isSo_40_ok 38 rfl
theorem dL_isSo_134 : decode cL_isSo 134 = .ok (.aload 6, 2) := dd_all DL_isSo_40_ok 39 rfl
def DL_isSo_80 : List (Nat × Instr × Nat) := [(136, .iload 13, 2), (138, .iconst 1, 1), (139, .iadd, 1), (140, .dup2, 1), (141, .iaload, 1), (142, .iload 9, 2), (144, .iconst 5, 1), (145, .if_icmp .ne 7, 3), (148, .iconst 1, 1), (149, .goto 4, 3), (152, .iconst 0, 1), (153, .iadd, 1), (154, .iastore, 1), (155, .aload 6, 2), (157, .iload 13, 2), (159, .iconst 2, 1), (160, .iadd, 1), (161, .dup2, 1), (162, .iaload, 1), (163, .iload 11, 2), (165, .ifCond .eq 8, 3), (168, .iload 10, 2), (170, .goto 4, 3), (173, .iconst 0, 1), (174, .iadd, 1), (175, .iastore, 1), (176, .aload 6, 2), (178, .iload 13, 2), (180, .iconst 3, 1), (181, .iadd, 1), (182, .dup2, 1), (183, .iaload, 1), (184, .iload 11, 2), (186, .ifCond .eq 8, 3), (189, .iload 12, 2), (191, .goto 4, 3), (194, .iconst 0, 1), (195, .iadd, 1), (196, .iastore, 1), (197, .aload 6, 2)]
theorem DL_isSo_80_ok : ∀ q ∈ DL_isSo_80, decode cL_isSo q.1 = .ok (q.2.1, q.2.2) := by decide +kernel
theorem dL_isSo_136 : decode cL_isSo 136 = .ok (.iload 13, 2) := dd_all DL_isSo_80_ok 0 rfl
theorem dL_isSo_138 : decode cL_isSo 138 = .ok (.iconst 1, 1) := dd_all DL_isSo_80_ok 1 rfl
theorem dL_isSo_139 : decode cL_isSo 139 = .ok (.iadd, 1) := dd_all DL_isSo_80_ok 2 rfl
theorem dL_isSo_140 : decode cL_isSo 140 = .ok (.dup2, 1) := dd_all DL_isSo_80_ok 3 rfl
theorem dL_isSo_141 : decode cL_isSo 141 = .ok (.iaload, 1) := dd_all DL_isSo_80_ok 4 rfl
theorem dL_isSo_142 : decode cL_isSo 142 = .ok (.iload 9, 2) := dd_all DL_isSo_80_ok 5 rfl
theorem dL_isSo_144 : decode cL_isSo 144 = .ok (.iconst 5, 1) := dd_all DL_isSo_80_ok 6 rfl
theorem dL_isSo_145 : decode cL_isSo 145 = .ok (.if_icmp .ne 7, 3) := dd_all DL_isSo_80_ok 7 rfl
theorem dL_isSo_148 : decode cL_isSo 148 = .ok (.iconst 1, 1) := dd_all DL_isSo_80_ok 8 rfl
theorem dL_isSo_149 : decode cL_isSo 149 = .ok (.goto 4, 3) := dd_all DL_isSo_80_ok 9 rfl
theorem dL_isSo_152 : decode cL_isSo 152 = .ok (.iconst 0, 1) := dd_all DL_isSo_80_ok 10 rfl
theorem dL_isSo_153 : decode cL_isSo 153 = .ok (.iadd, 1) := dd_all DL_isSo_80_ok 11 rfl
theorem dL_isSo_154 : decode cL_isSo 154 = .ok (.iastore, 1) := dd_all DL_isSo_80_ok 12 rfl
theorem dL_isSo_155 : decode cL_isSo 155 = .ok (.aload 6, 2) := dd_all DL_isSo_80_ok 13 rfl
theorem dL_isSo_157 : decode cL_isSo 157 = .ok (.iload 13, 2) := dd_all DL_isSo_80_ok 14 rfl
theorem dL_isSo_159 : decode cL_isSo 159 = .ok (.iconst 2, 1) := dd_all DL_isSo_80_ok 15 rfl
theorem dL_isSo_160 : decode cL_isSo 160 = .ok (.iadd, 1) := dd_all DL_isSo_80_ok 16 rfl
theorem dL_isSo_161 : decode cL_isSo 161 = .ok (.dup2, 1) := dd_all DL_isSo_80_ok 17 rfl
theorem dL_isSo_162 : decode cL_isSo 162 = .ok (.iaload, 1) := dd_all DL_isSo_80_ok 18 rfl
theorem dL_isSo_163 : decode cL_isSo 163 = .ok (.iload 11, 2) := dd_all DL_isSo_80_ok 19 rfl
theorem dL_isSo_165 : decode cL_isSo 165 = .ok (.ifCond .eq 8, 3) := dd_all DL_isSo_80_ok 20 rfl
theorem dL_isSo_168 : decode cL_isSo 168 = .ok (.iload 10, 2) := dd_all DL_isSo_80_ok 21 rfl
theorem dL_isSo_170 : decode cL_isSo 170 = .ok (.goto 4, 3) := dd_all DL_isSo_80_ok 22 rfl
theorem dL_isSo_173 : decode cL_isSo 173 = .ok (.iconst 0, 1) := dd_all DL_isSo_80_ok 23 rfl
theorem dL_isSo_174 : decode cL_isSo 174 = .ok (.iadd, 1) := dd_all DL_isSo_80_ok 24 rfl
theorem dL_isSo_175 : decode cL_isSo 175 = .ok (.iastore, 1) := dd_all DL_isSo_80_ok 25 rfl
theorem dL_isSo_176 : decode cL_isSo 176 = .ok (.aload 6, 2) := dd_all DL_isSo_80_ok 26 rfl
theorem dL_isSo_178 : decode cL_isSo 178 = .ok (.iload 13, 2) := dd_all DL_isSo_80_ok 27 rfl
theorem dL_isSo_180 : decode cL_isSo 180 = .ok (.iconst 3, 1) := dd_all DL_isSo_80_ok 28 rfl
theorem dL_isSo_181 : decode cL_isSo 181 = .ok (.iadd, 1) := dd_all DL_isSo_80_ok 29 rfl
theorem dL_isSo_182 : decode cL_isSo 182 = .ok (.dup2, 1) := dd_all DL_isSo_80_ok 30 rfl
theorem dL_isSo_183 : decode cL_isSo 183 = .ok (.iaload, 1) := dd_all DL_isSo_80_ok 31 rfl
theorem dL_isSo_184 : decode cL_isSo 184 = .ok (.iload 11, 2) := dd_all DL_isSo_80_ok 32 rfl
theorem dL_isSo_186 : decode cL_isSo 186 = .ok (.ifCond .eq 8, 3) := dd_all DL_isSo_80_ok 33 rfl
theorem dL_isSo_189 : decode cL_isSo 189 = .ok (.iload 12, 2) := dd_all DL_isSo_80_ok 34 rfl
theorem dL_isSo_191 : decode cL_isSo 191 = .ok (.goto 4, 3) := dd_all DL_isSo_80_ok 35 rfl
theorem dL_isSo_194 : decode cL_isSo 194 = .ok (.iconst 0, 1) := dd_all DL_isSo_80_ok 36 rfl
theorem dL_isSo_195 : decode cL_isSo 195 = .ok (.iadd, 1) := dd_all DL_isSo_80_ok 37 rfl
theorem dL_isSo_196 : decode cL_isSo 196 = .ok (.iastore, 1) := dd_all DL_isSo_80_ok 38 rfl
theorem dL_isSo_197 : decode cL_isSo 197 = .ok (.aload 6, 2) := dd_all DL_isSo_80_ok 39 rfl
def DL_isSo_120 : List (Nat × Instr × Nat) := [(199, .iload 13, 2), (201, .iconst 4, 1), (202, .iadd, 1), (203, .dup2, 1), (204, .iaload, 1), (205, .iload 9, 2), (207, .ifCond .ne 7, 3), (210, .iconst 1, 1), (211, .goto 4, 3), (214, .iconst 0, 1), (215, .iadd, 1), (216, .iastore, 1), (217, .iload 5, 2), (219, .iload 11, 2), (221, .ifCond .eq 8, 3), (224, .iload 12, 2), (226, .goto 4, 3), (229, .iconst 0, 1), (230, .iadd, 1), (231, .istore 5, 2), (233, .aload_n 0, 1), (234, .iload 8, 2), (236, .iconst 0, 1), (237, .invokevirtual 106, 3), (240, .iload 13, 2), (242, .iconst 5, 1), (243, .idiv, 1), (244, .if_icmp .ne 160, 3), (247, .aload_n 0, 1), (248, .iload 8, 2), (250, .iconst 1, 1), (251, .invokevirtual 106, 3), (254, .aload_n 2, 1), (255, .iload 8, 2), (257, .laload, 1), (258, .iconst 2, 1), (259, .bipush 7, 2), (261, .invokestatic 11, 3), (264, .if_icmp .ne 140, 3), (267, .aload_n 0, 1)]
theorem DL_isSo_120_ok : ∀ q ∈ DL_isSo_120, decode cL_isSo q.1 = .ok (q.2.1, q.2.2) := by decide +kernel
theorem dL_isSo_199 : decode cL_isSo 199 = .ok (.iload 13, 2) := dd_all DL_isSo_120_ok 0 rfl
theorem dL_isSo_201 : decode cL_isSo 201 = .ok (.iconst 4, 1) := dd_all DL_isSo_120_ok 1 rfl
theorem dL_isSo_202 : decode cL_isSo 202 = .ok (.iadd, 1) := dd_all DL_isSo_120_ok 2 rfl
theorem dL_isSo_203 : decode cL_isSo 203 = .ok (.dup2, 1) := dd_all DL_isSo_120_ok 3 rfl
theorem dL_isSo_204 : decode cL_isSo 204 = .ok (.iaload, 1) := dd_all DL_isSo_120_ok 4 rfl
theorem dL_isSo_205 : decode cL_isSo 205 = .ok (.iload 9, 2) := dd_all DL_isSo_120_ok 5 rfl
theorem dL_isSo_207 : decode cL_isSo 207 = .ok (.ifCond .ne 7, 3) := dd_all DL_isSo_120_ok 6 rfl
theorem dL_isSo_210 : decode cL_isSo 210 = .ok (.iconst 1, 1) := dd_all DL_isSo_120_ok 7 rfl
theorem dL_isSo_211 : decode cL_isSo 211 = .ok (.goto 4, 3) := dd_all DL_isSo_120_ok 8 rfl
theorem dL_isSo_214 : decode cL_isSo 214 = .ok (.iconst 0, 1) := dd_all DL_isSo_120_ok 9 rfl
theorem dL_isSo_215 : decode cL_isSo 215 = .ok (.iadd, 1) := dd_all DL_isSo_120_ok 10 rfl
theorem dL_isSo_216 : decode cL_isSo 216 = .ok (.iastore, 1) := dd_all DL_isSo_120_ok 11 rfl
theorem dL_isSo_217 : decode cL_isSo 217 = .ok (.iload 5, 2) := dd_all DL_isSo_120_ok 12 rfl
theorem dL_isSo_219 : decode cL_isSo 219 = .ok (.iload 11, 2) := dd_all DL_isSo_120_ok 13 rfl
theorem dL_isSo_221 : decode cL_isSo 221 = .ok (.ifCond .eq 8, 3) := dd_all DL_isSo_120_ok 14 rfl
theorem dL_isSo_224 : decode cL_isSo 224 = .ok (.iload 12, 2) := dd_all DL_isSo_120_ok 15 rfl
theorem dL_isSo_226 : decode cL_isSo 226 = .ok (.goto 4, 3) := dd_all DL_isSo_120_ok 16 rfl
theorem dL_isSo_229 : decode cL_isSo 229 = .ok (.iconst 0, 1) := dd_all DL_isSo_120_ok 17 rfl
theorem dL_isSo_230 : decode cL_isSo 230 = .ok (.iadd, 1) := dd_all DL_isSo_120_ok 18 rfl
theorem dL_isSo_231 : decode cL_isSo 231 = .ok (.istore 5, 2) := dd_all DL_isSo_120_ok 19 rfl
theorem dL_isSo_233 : decode cL_isSo 233 = .ok (.aload_n 0, 1) := dd_all DL_isSo_120_ok 20 rfl
theorem dL_isSo_234 : decode cL_isSo 234 = .ok (.iload 8, 2) := dd_all DL_isSo_120_ok 21 rfl
theorem dL_isSo_236 : decode cL_isSo 236 = .ok (.iconst 0, 1) := dd_all DL_isSo_120_ok 22 rfl
theorem dL_isSo_237 : decode cL_isSo 237 = .ok (.invokevirtual 106, 3) := dd_all DL_isSo_120_ok 23 rfl
theorem dL_isSo_240 : decode cL_isSo 240 = .ok (.iload 13, 2) := dd_all DL_isSo_120_ok 24 rfl
theorem dL_isSo_242 : decode cL_isSo 242 = .ok (.iconst 5, 1) := dd_all DL_isSo_120_ok 25 rfl
theorem dL_isSo_243 : decode cL_isSo 243 = .ok (.idiv, 1) := dd_all DL_isSo_120_ok 26 rfl
theorem dL_isSo_244 : decode cL_isSo 244 = .ok (.if_icmp .ne 160, 3) := dd_all DL_isSo_120_ok 27 rfl
theorem dL_isSo_247 : decode cL_isSo 247 = .ok (.aload_n 0, 1) := dd_all DL_isSo_120_ok 28 rfl
theorem dL_isSo_248 : decode cL_isSo 248 = .ok (.iload 8, 2) := dd_all DL_isSo_120_ok 29 rfl
theorem dL_isSo_250 : decode cL_isSo 250 = .ok (.iconst 1, 1) := dd_all DL_isSo_120_ok 30 rfl
theorem dL_isSo_251 : decode cL_isSo 251 = .ok (.invokevirtual 106, 3) := dd_all DL_isSo_120_ok 31 rfl
theorem dL_isSo_254 : decode cL_isSo 254 = .ok (.aload_n 2, 1) := dd_all DL_isSo_120_ok 32 rfl
theorem dL_isSo_255 : decode cL_isSo 255 = .ok (.iload 8, 2) := dd_all DL_isSo_120_ok 33 rfl
theorem dL_isSo_257 : decode cL_isSo 257 = .ok (.laload, 1) := dd_all DL_isSo_120_ok 34 rfl
theorem dL_isSo_258 : decode cL_isSo 258 = .ok (.iconst 2, 1) := dd_all DL_isSo_120_ok 35 rfl
theorem dL_isSo_259 : decode cL_isSo 259 = .ok (.bipush 7, 2) := dd_all DL_isSo_120_ok 36 rfl
theorem dL_isSo_261 : decode cL_isSo 261 = .ok (.invokestatic 11, 3) := dd_all DL_isSo_120_ok 37 rfl
theorem dL_isSo_264 : decode cL_isSo 264 = .ok (.if_icmp .ne 140, 3) := dd_all DL_isSo_120_ok 38 rfl
theorem dL_isSo_267 : decode cL_isSo 267 = .ok (.aload_n 0, 1) := dd_all DL_isSo_120_ok 39 rfl
def DL_isSo_160 : List (Nat × Instr × Nat) := [(268, .iload 8, 2), (270, .iconst 2, 1), (271, .invokevirtual 106, 3), (274, .aload_n 2, 1), (275, .iload 8, 2), (277, .laload, 1), (278, .bipush 9, 2), (280, .bipush 7, 2), (282, .invokestatic 11, 3), (285, .if_icmp .ne 119, 3), (288, .aload_n 0, 1), (289, .iload 8, 2), (291, .iconst 3, 1), (292, .invokevirtual 106, 3), (295, .iload 9, 2), (297, .if_icmp .ne 107, 3), (300, .aload_n 0, 1), (301, .iload 8, 2), (303, .iconst 4, 1), (304, .invokevirtual 106, 3), (307, .iload 11, 2), (309, .ifCond .eq 8, 3), (312, .iload 10, 2), (314, .goto 5, 3), (317, .bipush (-4), 2), (319, .if_icmp .ne 85, 3), (322, .aload_n 0, 1), (323, .iload 8, 2), (325, .iconst 5, 1), (326, .invokevirtual 106, 3), (329, .iload 11, 2), (331, .ifCond .eq 8, 3), (334, .iload 12, 2), (336, .goto 5, 3), (339, .bipush (-4), 2), (341, .if_icmp .ne 63, 3), (344, .aload_n 0, 1), (345, .iload 8, 2), (347, .bipush 6, 2), (349, .invokevirtual 106, 3)]
theorem DL_isSo_160_ok : ∀ q ∈ DL_isSo_160, decode cL_isSo q.1 = .ok (q.2.1, q.2.2) := by decide +kernel
theorem dL_isSo_268 : decode cL_isSo 268 = .ok (.iload 8, 2) := dd_all DL_isSo_160_ok 0 rfl
theorem dL_isSo_270 : decode cL_isSo 270 = .ok (.iconst 2, 1) := dd_all DL_isSo_160_ok 1 rfl
theorem dL_isSo_271 : decode cL_isSo 271 = .ok (.invokevirtual 106, 3) := dd_all DL_isSo_160_ok 2 rfl
theorem dL_isSo_274 : decode cL_isSo 274 = .ok (.aload_n 2, 1) := dd_all DL_isSo_160_ok 3 rfl
theorem dL_isSo_275 : decode cL_isSo 275 = .ok (.iload 8, 2) := dd_all DL_isSo_160_ok 4 rfl
theorem dL_isSo_277 : decode cL_isSo 277 = .ok (.laload, 1) := dd_all DL_isSo_160_ok 5 rfl
theorem dL_isSo_278 : decode cL_isSo 278 = .ok (.bipush 9, 2) := dd_all DL_isSo_160_ok 6 rfl
theorem dL_isSo_280 : decode cL_isSo 280 = .ok (.bipush 7, 2) := dd_all DL_isSo_160_ok 7 rfl
theorem dL_isSo_282 : decode cL_isSo 282 = .ok (.invokestatic 11, 3) := dd_all DL_isSo_160_ok 8 rfl
theorem dL_isSo_285 : decode cL_isSo 285 = .ok (.if_icmp .ne 119, 3) := dd_all DL_isSo_160_ok 9 rfl
theorem dL_isSo_288 : decode cL_isSo 288 = .ok (.aload_n 0, 1) := dd_all DL_isSo_160_ok 10 rfl
theorem dL_isSo_289 : decode cL_isSo 289 = .ok (.iload 8, 2) := dd_all DL_isSo_160_ok 11 rfl
theorem dL_isSo_291 : decode cL_isSo 291 = .ok (.iconst 3, 1) := dd_all DL_isSo_160_ok 12 rfl
theorem dL_isSo_292 : decode cL_isSo 292 = .ok (.invokevirtual 106, 3) := dd_all DL_isSo_160_ok 13 rfl
theorem dL_isSo_295 : decode cL_isSo 295 = .ok (.iload 9, 2) := dd_all DL_isSo_160_ok 14 rfl
theorem dL_isSo_297 : decode cL_isSo 297 = .ok (.if_icmp .ne 107, 3) := dd_all DL_isSo_160_ok 15 rfl
theorem dL_isSo_300 : decode cL_isSo 300 = .ok (.aload_n 0, 1) := dd_all DL_isSo_160_ok 16 rfl
theorem dL_isSo_301 : decode cL_isSo 301 = .ok (.iload 8, 2) := dd_all DL_isSo_160_ok 17 rfl
theorem dL_isSo_303 : decode cL_isSo 303 = .ok (.iconst 4, 1) := dd_all DL_isSo_160_ok 18 rfl
theorem dL_isSo_304 : decode cL_isSo 304 = .ok (.invokevirtual 106, 3) := dd_all DL_isSo_160_ok 19 rfl
theorem dL_isSo_307 : decode cL_isSo 307 = .ok (.iload 11, 2) := dd_all DL_isSo_160_ok 20 rfl
theorem dL_isSo_309 : decode cL_isSo 309 = .ok (.ifCond .eq 8, 3) := dd_all DL_isSo_160_ok 21 rfl
theorem dL_isSo_312 : decode cL_isSo 312 = .ok (.iload 10, 2) := dd_all DL_isSo_160_ok 22 rfl
theorem dL_isSo_314 : decode cL_isSo 314 = .ok (.goto 5, 3) := dd_all DL_isSo_160_ok 23 rfl
theorem dL_isSo_317 : decode cL_isSo 317 = .ok (.bipush (-4), 2) := dd_all DL_isSo_160_ok 24 rfl
theorem dL_isSo_319 : decode cL_isSo 319 = .ok (.if_icmp .ne 85, 3) := dd_all DL_isSo_160_ok 25 rfl
theorem dL_isSo_322 : decode cL_isSo 322 = .ok (.aload_n 0, 1) := dd_all DL_isSo_160_ok 26 rfl
theorem dL_isSo_323 : decode cL_isSo 323 = .ok (.iload 8, 2) := dd_all DL_isSo_160_ok 27 rfl
theorem dL_isSo_325 : decode cL_isSo 325 = .ok (.iconst 5, 1) := dd_all DL_isSo_160_ok 28 rfl
theorem dL_isSo_326 : decode cL_isSo 326 = .ok (.invokevirtual 106, 3) := dd_all DL_isSo_160_ok 29 rfl
theorem dL_isSo_329 : decode cL_isSo 329 = .ok (.iload 11, 2) := dd_all DL_isSo_160_ok 30 rfl
theorem dL_isSo_331 : decode cL_isSo 331 = .ok (.ifCond .eq 8, 3) := dd_all DL_isSo_160_ok 31 rfl
theorem dL_isSo_334 : decode cL_isSo 334 = .ok (.iload 12, 2) := dd_all DL_isSo_160_ok 32 rfl
theorem dL_isSo_336 : decode cL_isSo 336 = .ok (.goto 5, 3) := dd_all DL_isSo_160_ok 33 rfl
theorem dL_isSo_339 : decode cL_isSo 339 = .ok (.bipush (-4), 2) := dd_all DL_isSo_160_ok 34 rfl
theorem dL_isSo_341 : decode cL_isSo 341 = .ok (.if_icmp .ne 63, 3) := dd_all DL_isSo_160_ok 35 rfl
theorem dL_isSo_344 : decode cL_isSo 344 = .ok (.aload_n 0, 1) := dd_all DL_isSo_160_ok 36 rfl
theorem dL_isSo_345 : decode cL_isSo 345 = .ok (.iload 8, 2) := dd_all DL_isSo_160_ok 37 rfl
theorem dL_isSo_347 : decode cL_isSo 347 = .ok (.bipush 6, 2) := dd_all DL_isSo_160_ok 38 rfl
theorem dL_isSo_349 : decode cL_isSo 349 = .ok (.invokevirtual 106, 3) := dd_all DL_isSo_160_ok 39 rfl
def DL_isSo_200 : List (Nat × Instr × Nat) := [(352, .aload_n 2, 1), (353, .iload 8, 2), (355, .laload, 1), (356, .bipush 41, 2), (358, .iconst 1, 1), (359, .invokestatic 11, 3), (362, .if_icmp .ne 42, 3), (365, .aload_n 0, 1), (366, .iload 8, 2), (368, .bipush 7, 2), (370, .invokevirtual 106, 3), (373, .iload 9, 2), (375, .ifCond .ne 8, 3), (378, .iload 4, 2), (380, .goto 5, 3), (383, .bipush (-4), 2), (385, .if_icmp .ne 19, 3), (388, .aload_n 0, 1), (389, .iload 8, 2), (391, .bipush 8, 2), (393, .invokevirtual 106, 3), (396, .iconst (-1), 1), (397, .if_icmp .ne 7, 3), (400, .iconst 1, 1), (401, .goto 4, 3), (404, .iconst 0, 1), (405, .istore 7, 2), (407, .iload 4, 2), (409, .iload 9, 2), (411, .ifCond .ne 7, 3), (414, .iconst 1, 1), (415, .goto 4, 3), (418, .iconst 0, 1), (419, .iadd, 1), (420, .istore 4, 2), (422, .iinc 8 1, 3), (425, .goto (-401), 3), (428, .iconst 0, 1), (429, .istore 8, 2), (431, .iload 8, 2)]
theorem DL_isSo_200_ok : ∀ q ∈ DL_isSo_200, decode cL_isSo q.1 = .ok (q.2.1, q.2.2) := by decide +kernel
theorem dL_isSo_352 : decode cL_isSo 352 = .ok (.aload_n 2, 1) := dd_all DL_isSo_200_ok 0 rfl
theorem dL_isSo_353 : decode cL_isSo 353 = .ok (.iload 8, 2) := dd_all DL_isSo_200_ok 1 rfl
theorem dL_isSo_355 : decode cL_isSo 355 = .ok (.laload, 1) := dd_all DL_isSo_200_ok 2 rfl
theorem dL_isSo_356 : decode cL_isSo 356 = .ok (.bipush 41, 2) := dd_all DL_isSo_200_ok 3 rfl
theorem dL_isSo_358 : decode cL_isSo 358 = .ok (.iconst 1, 1) := dd_all DL_isSo_200_ok 4 rfl
theorem dL_isSo_359 : decode cL_isSo 359 = .ok (.invokestatic 11, 3) := dd_all DL_isSo_200_ok 5 rfl
theorem dL_isSo_362 : decode cL_isSo 362 = .ok (.if_icmp .ne 42, 3) := dd_all DL_isSo_200_ok 6 rfl
theorem dL_isSo_365 : decode cL_isSo 365 = .ok (.aload_n 0, 1) := dd_all DL_isSo_200_ok 7 rfl
theorem dL_isSo_366 : decode cL_isSo 366 = .ok (.iload 8, 2) := dd_all DL_isSo_200_ok 8 rfl
theorem dL_isSo_368 : decode cL_isSo 368 = .ok (.bipush 7, 2) := dd_all DL_isSo_200_ok 9 rfl
theorem dL_isSo_370 : decode cL_isSo 370 = .ok (.invokevirtual 106, 3) := dd_all DL_isSo_200_ok 10 rfl
theorem dL_isSo_373 : decode cL_isSo 373 = .ok (.iload 9, 2) := dd_all DL_isSo_200_ok 11 rfl
theorem dL_isSo_375 : decode cL_isSo 375 = .ok (.ifCond .ne 8, 3) := dd_all DL_isSo_200_ok 12 rfl
theorem dL_isSo_378 : decode cL_isSo 378 = .ok (.iload 4, 2) := dd_all DL_isSo_200_ok 13 rfl
theorem dL_isSo_380 : decode cL_isSo 380 = .ok (.goto 5, 3) := dd_all DL_isSo_200_ok 14 rfl
theorem dL_isSo_383 : decode cL_isSo 383 = .ok (.bipush (-4), 2) := dd_all DL_isSo_200_ok 15 rfl
theorem dL_isSo_385 : decode cL_isSo 385 = .ok (.if_icmp .ne 19, 3) := dd_all DL_isSo_200_ok 16 rfl
theorem dL_isSo_388 : decode cL_isSo 388 = .ok (.aload_n 0, 1) := dd_all DL_isSo_200_ok 17 rfl
theorem dL_isSo_389 : decode cL_isSo 389 = .ok (.iload 8, 2) := dd_all DL_isSo_200_ok 18 rfl
theorem dL_isSo_391 : decode cL_isSo 391 = .ok (.bipush 8, 2) := dd_all DL_isSo_200_ok 19 rfl
theorem dL_isSo_393 : decode cL_isSo 393 = .ok (.invokevirtual 106, 3) := dd_all DL_isSo_200_ok 20 rfl
theorem dL_isSo_396 : decode cL_isSo 396 = .ok (.iconst (-1), 1) := dd_all DL_isSo_200_ok 21 rfl
theorem dL_isSo_397 : decode cL_isSo 397 = .ok (.if_icmp .ne 7, 3) := dd_all DL_isSo_200_ok 22 rfl
theorem dL_isSo_400 : decode cL_isSo 400 = .ok (.iconst 1, 1) := dd_all DL_isSo_200_ok 23 rfl
theorem dL_isSo_401 : decode cL_isSo 401 = .ok (.goto 4, 3) := dd_all DL_isSo_200_ok 24 rfl
theorem dL_isSo_404 : decode cL_isSo 404 = .ok (.iconst 0, 1) := dd_all DL_isSo_200_ok 25 rfl
theorem dL_isSo_405 : decode cL_isSo 405 = .ok (.istore 7, 2) := dd_all DL_isSo_200_ok 26 rfl
theorem dL_isSo_407 : decode cL_isSo 407 = .ok (.iload 4, 2) := dd_all DL_isSo_200_ok 27 rfl
theorem dL_isSo_409 : decode cL_isSo 409 = .ok (.iload 9, 2) := dd_all DL_isSo_200_ok 28 rfl
theorem dL_isSo_411 : decode cL_isSo 411 = .ok (.ifCond .ne 7, 3) := dd_all DL_isSo_200_ok 29 rfl
theorem dL_isSo_414 : decode cL_isSo 414 = .ok (.iconst 1, 1) := dd_all DL_isSo_200_ok 30 rfl
theorem dL_isSo_415 : decode cL_isSo 415 = .ok (.goto 4, 3) := dd_all DL_isSo_200_ok 31 rfl
theorem dL_isSo_418 : decode cL_isSo 418 = .ok (.iconst 0, 1) := dd_all DL_isSo_200_ok 32 rfl
theorem dL_isSo_419 : decode cL_isSo 419 = .ok (.iadd, 1) := dd_all DL_isSo_200_ok 33 rfl
theorem dL_isSo_420 : decode cL_isSo 420 = .ok (.istore 4, 2) := dd_all DL_isSo_200_ok 34 rfl
theorem dL_isSo_422 : decode cL_isSo 422 = .ok (.iinc 8 1, 3) := dd_all DL_isSo_200_ok 35 rfl
theorem dL_isSo_425 : decode cL_isSo 425 = .ok (.goto (-401), 3) := dd_all DL_isSo_200_ok 36 rfl
theorem dL_isSo_428 : decode cL_isSo 428 = .ok (.iconst 0, 1) := dd_all DL_isSo_200_ok 37 rfl
theorem dL_isSo_429 : decode cL_isSo 429 = .ok (.istore 8, 2) := dd_all DL_isSo_200_ok 38 rfl
theorem dL_isSo_431 : decode cL_isSo 431 = .ok (.iload 8, 2) := dd_all DL_isSo_200_ok 39 rfl
def DL_isSo_240 : List (Nat × Instr × Nat) := [(433, .bipush 20, 2), (435, .if_icmp .ge 41, 3), (438, .iload 7, 2), (440, .ifCond .eq 36, 3), (443, .aload_n 0, 1), (444, .iload 8, 2), (446, .iconst 5, 1), (447, .idiv, 1), (448, .iload 8, 2), (450, .iconst 5, 1), (451, .irem, 1), (452, .invokevirtual 109, 3), (455, .aload 6, 2), (457, .iload 8, 2), (459, .iaload, 1), (460, .if_icmp .ne 7, 3), (463, .iconst 1, 1), (464, .goto 4, 3), (467, .iconst 0, 1), (468, .istore 7, 2), (470, .iinc 8 1, 3), (473, .goto (-42), 3), (476, .ldc2_w 9, 3), (479, .lstore 8, 2), (481, .aload_n 1, 1), (482, .aload_n 2, 1), (483, .bipush 9, 2), (485, .invokestatic 36, 3), (488, .istore 10, 2), (490, .iconst 0, 1), (491, .istore 11, 2), (493, .iload 11, 2), (495, .iload 10, 2), (497, .if_icmp .ge 128, 3), (500, .iload 7, 2), (502, .ifCond .eq 123, 3), (505, .iconst (-1), 1), (506, .istore 12, 2), (508, .iconst 0, 1), (509, .istore 13, 2)]
theorem DL_isSo_240_ok : ∀ q ∈ DL_isSo_240, decode cL_isSo q.1 = .ok (q.2.1, q.2.2) := by decide +kernel
theorem dL_isSo_433 : decode cL_isSo 433 = .ok (.bipush 20, 2) := dd_all DL_isSo_240_ok 0 rfl
theorem dL_isSo_435 : decode cL_isSo 435 = .ok (.if_icmp .ge 41, 3) := dd_all DL_isSo_240_ok 1 rfl
theorem dL_isSo_438 : decode cL_isSo 438 = .ok (.iload 7, 2) := dd_all DL_isSo_240_ok 2 rfl
theorem dL_isSo_440 : decode cL_isSo 440 = .ok (.ifCond .eq 36, 3) := dd_all DL_isSo_240_ok 3 rfl
theorem dL_isSo_443 : decode cL_isSo 443 = .ok (.aload_n 0, 1) := dd_all DL_isSo_240_ok 4 rfl
theorem dL_isSo_444 : decode cL_isSo 444 = .ok (.iload 8, 2) := dd_all DL_isSo_240_ok 5 rfl
theorem dL_isSo_446 : decode cL_isSo 446 = .ok (.iconst 5, 1) := dd_all DL_isSo_240_ok 6 rfl
theorem dL_isSo_447 : decode cL_isSo 447 = .ok (.idiv, 1) := dd_all DL_isSo_240_ok 7 rfl
theorem dL_isSo_448 : decode cL_isSo 448 = .ok (.iload 8, 2) := dd_all DL_isSo_240_ok 8 rfl
theorem dL_isSo_450 : decode cL_isSo 450 = .ok (.iconst 5, 1) := dd_all DL_isSo_240_ok 9 rfl
theorem dL_isSo_451 : decode cL_isSo 451 = .ok (.irem, 1) := dd_all DL_isSo_240_ok 10 rfl
theorem dL_isSo_452 : decode cL_isSo 452 = .ok (.invokevirtual 109, 3) := dd_all DL_isSo_240_ok 11 rfl
theorem dL_isSo_455 : decode cL_isSo 455 = .ok (.aload 6, 2) := dd_all DL_isSo_240_ok 12 rfl
theorem dL_isSo_457 : decode cL_isSo 457 = .ok (.iload 8, 2) := dd_all DL_isSo_240_ok 13 rfl
theorem dL_isSo_459 : decode cL_isSo 459 = .ok (.iaload, 1) := dd_all DL_isSo_240_ok 14 rfl
theorem dL_isSo_460 : decode cL_isSo 460 = .ok (.if_icmp .ne 7, 3) := dd_all DL_isSo_240_ok 15 rfl
theorem dL_isSo_463 : decode cL_isSo 463 = .ok (.iconst 1, 1) := dd_all DL_isSo_240_ok 16 rfl
theorem dL_isSo_464 : decode cL_isSo 464 = .ok (.goto 4, 3) := dd_all DL_isSo_240_ok 17 rfl
theorem dL_isSo_467 : decode cL_isSo 467 = .ok (.iconst 0, 1) := dd_all DL_isSo_240_ok 18 rfl
theorem dL_isSo_468 : decode cL_isSo 468 = .ok (.istore 7, 2) := dd_all DL_isSo_240_ok 19 rfl
theorem dL_isSo_470 : decode cL_isSo 470 = .ok (.iinc 8 1, 3) := dd_all DL_isSo_240_ok 20 rfl
theorem dL_isSo_473 : decode cL_isSo 473 = .ok (.goto (-42), 3) := dd_all DL_isSo_240_ok 21 rfl
theorem dL_isSo_476 : decode cL_isSo 476 = .ok (.ldc2_w 9, 3) := dd_all DL_isSo_240_ok 22 rfl
theorem dL_isSo_479 : decode cL_isSo 479 = .ok (.lstore 8, 2) := dd_all DL_isSo_240_ok 23 rfl
theorem dL_isSo_481 : decode cL_isSo 481 = .ok (.aload_n 1, 1) := dd_all DL_isSo_240_ok 24 rfl
theorem dL_isSo_482 : decode cL_isSo 482 = .ok (.aload_n 2, 1) := dd_all DL_isSo_240_ok 25 rfl
theorem dL_isSo_483 : decode cL_isSo 483 = .ok (.bipush 9, 2) := dd_all DL_isSo_240_ok 26 rfl
theorem dL_isSo_485 : decode cL_isSo 485 = .ok (.invokestatic 36, 3) := dd_all DL_isSo_240_ok 27 rfl
theorem dL_isSo_488 : decode cL_isSo 488 = .ok (.istore 10, 2) := dd_all DL_isSo_240_ok 28 rfl
theorem dL_isSo_490 : decode cL_isSo 490 = .ok (.iconst 0, 1) := dd_all DL_isSo_240_ok 29 rfl
theorem dL_isSo_491 : decode cL_isSo 491 = .ok (.istore 11, 2) := dd_all DL_isSo_240_ok 30 rfl
theorem dL_isSo_493 : decode cL_isSo 493 = .ok (.iload 11, 2) := dd_all DL_isSo_240_ok 31 rfl
theorem dL_isSo_495 : decode cL_isSo 495 = .ok (.iload 10, 2) := dd_all DL_isSo_240_ok 32 rfl
theorem dL_isSo_497 : decode cL_isSo 497 = .ok (.if_icmp .ge 128, 3) := dd_all DL_isSo_240_ok 33 rfl
theorem dL_isSo_500 : decode cL_isSo 500 = .ok (.iload 7, 2) := dd_all DL_isSo_240_ok 34 rfl
theorem dL_isSo_502 : decode cL_isSo 502 = .ok (.ifCond .eq 123, 3) := dd_all DL_isSo_240_ok 35 rfl
theorem dL_isSo_505 : decode cL_isSo 505 = .ok (.iconst (-1), 1) := dd_all DL_isSo_240_ok 36 rfl
theorem dL_isSo_506 : decode cL_isSo 506 = .ok (.istore 12, 2) := dd_all DL_isSo_240_ok 37 rfl
theorem dL_isSo_508 : decode cL_isSo 508 = .ok (.iconst 0, 1) := dd_all DL_isSo_240_ok 38 rfl
theorem dL_isSo_509 : decode cL_isSo 509 = .ok (.istore 13, 2) := dd_all DL_isSo_240_ok 39 rfl
def DL_isSo_280 : List (Nat × Instr × Nat) := [(511, .iload 13, 2), (513, .aload_n 1, 1), (514, .iconst 0, 1), (515, .iaload, 1), (516, .if_icmp .ge 71, 3), (519, .aload_n 2, 1), (520, .iload 13, 2), (522, .laload, 1), (523, .bipush 42, 2), (525, .bipush 16, 2), (527, .invokestatic 11, 3), (530, .istore 14, 2), (532, .aload_n 2, 1), (533, .iload 13, 2), (535, .laload, 1), (536, .invokestatic 21, 3), (539, .ifCond .eq 38, 3), (542, .iload 14, 2), (544, .i2l, 1), (545, .lload 8, 2), (547, .lcmp, 1), (548, .ifCond .le 29, 3), (551, .iload 12, 2), (553, .ifCond .lt 19, 3), (556, .iload 14, 2), (558, .aload_n 2, 1), (559, .iload 12, 2), (561, .laload, 1), (562, .bipush 42, 2), (564, .bipush 16, 2), (566, .invokestatic 11, 3), (569, .if_icmp .ge 8, 3), (572, .iload 13, 2), (574, .goto 5, 3), (577, .iload 12, 2), (579, .istore 12, 2), (581, .iinc 13 1, 3), (584, .goto (-73), 3), (587, .aload_n 2, 1), (588, .iload 12, 2)]
theorem DL_isSo_280_ok : ∀ q ∈ DL_isSo_280, decode cL_isSo q.1 = .ok (q.2.1, q.2.2) := by decide +kernel
theorem dL_isSo_511 : decode cL_isSo 511 = .ok (.iload 13, 2) := dd_all DL_isSo_280_ok 0 rfl
theorem dL_isSo_513 : decode cL_isSo 513 = .ok (.aload_n 1, 1) := dd_all DL_isSo_280_ok 1 rfl
theorem dL_isSo_514 : decode cL_isSo 514 = .ok (.iconst 0, 1) := dd_all DL_isSo_280_ok 2 rfl
theorem dL_isSo_515 : decode cL_isSo 515 = .ok (.iaload, 1) := dd_all DL_isSo_280_ok 3 rfl
theorem dL_isSo_516 : decode cL_isSo 516 = .ok (.if_icmp .ge 71, 3) := dd_all DL_isSo_280_ok 4 rfl
theorem dL_isSo_519 : decode cL_isSo 519 = .ok (.aload_n 2, 1) := dd_all DL_isSo_280_ok 5 rfl
theorem dL_isSo_520 : decode cL_isSo 520 = .ok (.iload 13, 2) := dd_all DL_isSo_280_ok 6 rfl
theorem dL_isSo_522 : decode cL_isSo 522 = .ok (.laload, 1) := dd_all DL_isSo_280_ok 7 rfl
theorem dL_isSo_523 : decode cL_isSo 523 = .ok (.bipush 42, 2) := dd_all DL_isSo_280_ok 8 rfl
theorem dL_isSo_525 : decode cL_isSo 525 = .ok (.bipush 16, 2) := dd_all DL_isSo_280_ok 9 rfl
theorem dL_isSo_527 : decode cL_isSo 527 = .ok (.invokestatic 11, 3) := dd_all DL_isSo_280_ok 10 rfl
theorem dL_isSo_530 : decode cL_isSo 530 = .ok (.istore 14, 2) := dd_all DL_isSo_280_ok 11 rfl
theorem dL_isSo_532 : decode cL_isSo 532 = .ok (.aload_n 2, 1) := dd_all DL_isSo_280_ok 12 rfl
theorem dL_isSo_533 : decode cL_isSo 533 = .ok (.iload 13, 2) := dd_all DL_isSo_280_ok 13 rfl
theorem dL_isSo_535 : decode cL_isSo 535 = .ok (.laload, 1) := dd_all DL_isSo_280_ok 14 rfl
theorem dL_isSo_536 : decode cL_isSo 536 = .ok (.invokestatic 21, 3) := dd_all DL_isSo_280_ok 15 rfl
theorem dL_isSo_539 : decode cL_isSo 539 = .ok (.ifCond .eq 38, 3) := dd_all DL_isSo_280_ok 16 rfl
theorem dL_isSo_542 : decode cL_isSo 542 = .ok (.iload 14, 2) := dd_all DL_isSo_280_ok 17 rfl
theorem dL_isSo_544 : decode cL_isSo 544 = .ok (.i2l, 1) := dd_all DL_isSo_280_ok 18 rfl
theorem dL_isSo_545 : decode cL_isSo 545 = .ok (.lload 8, 2) := dd_all DL_isSo_280_ok 19 rfl
theorem dL_isSo_547 : decode cL_isSo 547 = .ok (.lcmp, 1) := dd_all DL_isSo_280_ok 20 rfl
theorem dL_isSo_548 : decode cL_isSo 548 = .ok (.ifCond .le 29, 3) := dd_all DL_isSo_280_ok 21 rfl
theorem dL_isSo_551 : decode cL_isSo 551 = .ok (.iload 12, 2) := dd_all DL_isSo_280_ok 22 rfl
theorem dL_isSo_553 : decode cL_isSo 553 = .ok (.ifCond .lt 19, 3) := dd_all DL_isSo_280_ok 23 rfl
theorem dL_isSo_556 : decode cL_isSo 556 = .ok (.iload 14, 2) := dd_all DL_isSo_280_ok 24 rfl
theorem dL_isSo_558 : decode cL_isSo 558 = .ok (.aload_n 2, 1) := dd_all DL_isSo_280_ok 25 rfl
theorem dL_isSo_559 : decode cL_isSo 559 = .ok (.iload 12, 2) := dd_all DL_isSo_280_ok 26 rfl
theorem dL_isSo_561 : decode cL_isSo 561 = .ok (.laload, 1) := dd_all DL_isSo_280_ok 27 rfl
theorem dL_isSo_562 : decode cL_isSo 562 = .ok (.bipush 42, 2) := dd_all DL_isSo_280_ok 28 rfl
theorem dL_isSo_564 : decode cL_isSo 564 = .ok (.bipush 16, 2) := dd_all DL_isSo_280_ok 29 rfl
theorem dL_isSo_566 : decode cL_isSo 566 = .ok (.invokestatic 11, 3) := dd_all DL_isSo_280_ok 30 rfl
theorem dL_isSo_569 : decode cL_isSo 569 = .ok (.if_icmp .ge 8, 3) := dd_all DL_isSo_280_ok 31 rfl
theorem dL_isSo_572 : decode cL_isSo 572 = .ok (.iload 13, 2) := dd_all DL_isSo_280_ok 32 rfl
theorem dL_isSo_574 : decode cL_isSo 574 = .ok (.goto 5, 3) := dd_all DL_isSo_280_ok 33 rfl
theorem dL_isSo_577 : decode cL_isSo 577 = .ok (.iload 12, 2) := dd_all DL_isSo_280_ok 34 rfl
theorem dL_isSo_579 : decode cL_isSo 579 = .ok (.istore 12, 2) := dd_all DL_isSo_280_ok 35 rfl
theorem dL_isSo_581 : decode cL_isSo 581 = .ok (.iinc 13 1, 3) := dd_all DL_isSo_280_ok 36 rfl
theorem dL_isSo_584 : decode cL_isSo 584 = .ok (.goto (-73), 3) := dd_all DL_isSo_280_ok 37 rfl
theorem dL_isSo_587 : decode cL_isSo 587 = .ok (.aload_n 2, 1) := dd_all DL_isSo_280_ok 38 rfl
theorem dL_isSo_588 : decode cL_isSo 588 = .ok (.iload 12, 2) := dd_all DL_isSo_280_ok 39 rfl
def DL_isSo_320 : List (Nat × Instr × Nat) := [(590, .laload, 1), (591, .bipush 42, 2), (593, .bipush 16, 2), (595, .invokestatic 11, 3), (598, .i2l, 1), (599, .lstore 8, 2), (601, .aload_n 0, 1), (602, .iload 11, 2), (604, .invokevirtual 112, 3), (607, .iload 12, 2), (609, .if_icmp .ne 7, 3), (612, .iconst 1, 1), (613, .goto 4, 3), (616, .iconst 0, 1), (617, .istore 7, 2), (619, .iinc 11 1, 3), (622, .goto (-129), 3), (625, .iconst 0, 1), (626, .istore 11, 2), (628, .iload 11, 2), (630, .bipush 12, 2), (632, .if_icmp .ge 49, 3), (635, .iload 7, 2), (637, .ifCond .eq 44, 3), (640, .aload_n 0, 1), (641, .iload 11, 2), (643, .iconst 4, 1), (644, .irem, 1), (645, .iload 11, 2), (647, .iconst 4, 1), (648, .idiv, 1), (649, .invokevirtual 115, 3), (652, .aload_n 1, 1), (653, .aload_n 2, 1), (654, .iload 11, 2), (656, .iconst 4, 1), (657, .irem, 1), (658, .iload 11, 2), (660, .iconst 4, 1), (661, .idiv, 1)]
theorem DL_isSo_320_ok : ∀ q ∈ DL_isSo_320, decode cL_isSo q.1 = .ok (q.2.1, q.2.2) := by decide +kernel
theorem dL_isSo_590 : decode cL_isSo 590 = .ok (.laload, 1) := dd_all DL_isSo_320_ok 0 rfl
theorem dL_isSo_591 : decode cL_isSo 591 = .ok (.bipush 42, 2) := dd_all DL_isSo_320_ok 1 rfl
theorem dL_isSo_593 : decode cL_isSo 593 = .ok (.bipush 16, 2) := dd_all DL_isSo_320_ok 2 rfl
theorem dL_isSo_595 : decode cL_isSo 595 = .ok (.invokestatic 11, 3) := dd_all DL_isSo_320_ok 3 rfl
theorem dL_isSo_598 : decode cL_isSo 598 = .ok (.i2l, 1) := dd_all DL_isSo_320_ok 4 rfl
theorem dL_isSo_599 : decode cL_isSo 599 = .ok (.lstore 8, 2) := dd_all DL_isSo_320_ok 5 rfl
theorem dL_isSo_601 : decode cL_isSo 601 = .ok (.aload_n 0, 1) := dd_all DL_isSo_320_ok 6 rfl
theorem dL_isSo_602 : decode cL_isSo 602 = .ok (.iload 11, 2) := dd_all DL_isSo_320_ok 7 rfl
theorem dL_isSo_604 : decode cL_isSo 604 = .ok (.invokevirtual 112, 3) := dd_all DL_isSo_320_ok 8 rfl
theorem dL_isSo_607 : decode cL_isSo 607 = .ok (.iload 12, 2) := dd_all DL_isSo_320_ok 9 rfl
theorem dL_isSo_609 : decode cL_isSo 609 = .ok (.if_icmp .ne 7, 3) := dd_all DL_isSo_320_ok 10 rfl
theorem dL_isSo_612 : decode cL_isSo 612 = .ok (.iconst 1, 1) := dd_all DL_isSo_320_ok 11 rfl
theorem dL_isSo_613 : decode cL_isSo 613 = .ok (.goto 4, 3) := dd_all DL_isSo_320_ok 12 rfl
theorem dL_isSo_616 : decode cL_isSo 616 = .ok (.iconst 0, 1) := dd_all DL_isSo_320_ok 13 rfl
theorem dL_isSo_617 : decode cL_isSo 617 = .ok (.istore 7, 2) := dd_all DL_isSo_320_ok 14 rfl
theorem dL_isSo_619 : decode cL_isSo 619 = .ok (.iinc 11 1, 3) := dd_all DL_isSo_320_ok 15 rfl
theorem dL_isSo_622 : decode cL_isSo 622 = .ok (.goto (-129), 3) := dd_all DL_isSo_320_ok 16 rfl
theorem dL_isSo_625 : decode cL_isSo 625 = .ok (.iconst 0, 1) := dd_all DL_isSo_320_ok 17 rfl
theorem dL_isSo_626 : decode cL_isSo 626 = .ok (.istore 11, 2) := dd_all DL_isSo_320_ok 18 rfl
theorem dL_isSo_628 : decode cL_isSo 628 = .ok (.iload 11, 2) := dd_all DL_isSo_320_ok 19 rfl
theorem dL_isSo_630 : decode cL_isSo 630 = .ok (.bipush 12, 2) := dd_all DL_isSo_320_ok 20 rfl
theorem dL_isSo_632 : decode cL_isSo 632 = .ok (.if_icmp .ge 49, 3) := dd_all DL_isSo_320_ok 21 rfl
theorem dL_isSo_635 : decode cL_isSo 635 = .ok (.iload 7, 2) := dd_all DL_isSo_320_ok 22 rfl
theorem dL_isSo_637 : decode cL_isSo 637 = .ok (.ifCond .eq 44, 3) := dd_all DL_isSo_320_ok 23 rfl
theorem dL_isSo_640 : decode cL_isSo 640 = .ok (.aload_n 0, 1) := dd_all DL_isSo_320_ok 24 rfl
theorem dL_isSo_641 : decode cL_isSo 641 = .ok (.iload 11, 2) := dd_all DL_isSo_320_ok 25 rfl
theorem dL_isSo_643 : decode cL_isSo 643 = .ok (.iconst 4, 1) := dd_all DL_isSo_320_ok 26 rfl
theorem dL_isSo_644 : decode cL_isSo 644 = .ok (.irem, 1) := dd_all DL_isSo_320_ok 27 rfl
theorem dL_isSo_645 : decode cL_isSo 645 = .ok (.iload 11, 2) := dd_all DL_isSo_320_ok 28 rfl
theorem dL_isSo_647 : decode cL_isSo 647 = .ok (.iconst 4, 1) := dd_all DL_isSo_320_ok 29 rfl
theorem dL_isSo_648 : decode cL_isSo 648 = .ok (.idiv, 1) := dd_all DL_isSo_320_ok 30 rfl
theorem dL_isSo_649 : decode cL_isSo 649 = .ok (.invokevirtual 115, 3) := dd_all DL_isSo_320_ok 31 rfl
theorem dL_isSo_652 : decode cL_isSo 652 = .ok (.aload_n 1, 1) := dd_all DL_isSo_320_ok 32 rfl
theorem dL_isSo_653 : decode cL_isSo 653 = .ok (.aload_n 2, 1) := dd_all DL_isSo_320_ok 33 rfl
theorem dL_isSo_654 : decode cL_isSo 654 = .ok (.iload 11, 2) := dd_all DL_isSo_320_ok 34 rfl
theorem dL_isSo_656 : decode cL_isSo 656 = .ok (.iconst 4, 1) := dd_all DL_isSo_320_ok 35 rfl
theorem dL_isSo_657 : decode cL_isSo 657 = .ok (.irem, 1) := dd_all DL_isSo_320_ok 36 rfl
theorem dL_isSo_658 : decode cL_isSo 658 = .ok (.iload 11, 2) := dd_all DL_isSo_320_ok 37 rfl
theorem dL_isSo_660 : decode cL_isSo 660 = .ok (.iconst 4, 1) := dd_all DL_isSo_320_ok 38 rfl
theorem dL_isSo_661 : decode cL_isSo 661 = .ok (.idiv, 1) := dd_all DL_isSo_320_ok 39 rfl
def DL_isSo_360 : List (Nat × Instr × Nat) := [(662, .invokestatic 50, 3), (665, .if_icmp .ne 7, 3), (668, .iconst 1, 1), (669, .goto 4, 3), (672, .iconst 0, 1), (673, .istore 7, 2), (675, .iinc 11 1, 3), (678, .goto (-50), 3), (681, .iload 7, 2), (683, .ifCond .eq 133, 3), (686, .iload 5, 2), (688, .aload_n 1, 1), (689, .bipush 8, 2), (691, .iaload, 1), (692, .if_icmp .gt 124, 3), (695, .aload_n 0, 1), (696, .iload 10, 2), (698, .invokevirtual 112, 3), (701, .bipush (-4), 2), (703, .if_icmp .ne 113, 3), (706, .aload_n 0, 1), (707, .invokevirtual 118, 3), (710, .aload_n 1, 1), (711, .aload_n 2, 1), (712, .invokestatic 68, 3), (715, .if_icmp .ne 101, 3), (718, .aload_n 0, 1), (719, .iconst 0, 1), (720, .invokevirtual 122, 3), (723, .aload_n 1, 1), (724, .iconst 0, 1), (725, .iaload, 1), (726, .if_icmp .ne 90, 3), (729, .aload_n 0, 1), (730, .iconst 1, 1), (731, .invokevirtual 122, 3), (734, .iload 10, 2), (736, .if_icmp .ne 80, 3), (739, .aload_n 0, 1), (740, .iconst 2, 1)]
theorem DL_isSo_360_ok : ∀ q ∈ DL_isSo_360, decode cL_isSo q.1 = .ok (q.2.1, q.2.2) := by decide +kernel
theorem dL_isSo_662 : decode cL_isSo 662 = .ok (.invokestatic 50, 3) := dd_all DL_isSo_360_ok 0 rfl
theorem dL_isSo_665 : decode cL_isSo 665 = .ok (.if_icmp .ne 7, 3) := dd_all DL_isSo_360_ok 1 rfl
theorem dL_isSo_668 : decode cL_isSo 668 = .ok (.iconst 1, 1) := dd_all DL_isSo_360_ok 2 rfl
theorem dL_isSo_669 : decode cL_isSo 669 = .ok (.goto 4, 3) := dd_all DL_isSo_360_ok 3 rfl
theorem dL_isSo_672 : decode cL_isSo 672 = .ok (.iconst 0, 1) := dd_all DL_isSo_360_ok 4 rfl
theorem dL_isSo_673 : decode cL_isSo 673 = .ok (.istore 7, 2) := dd_all DL_isSo_360_ok 5 rfl
theorem dL_isSo_675 : decode cL_isSo 675 = .ok (.iinc 11 1, 3) := dd_all DL_isSo_360_ok 6 rfl
theorem dL_isSo_678 : decode cL_isSo 678 = .ok (.goto (-50), 3) := dd_all DL_isSo_360_ok 7 rfl
theorem dL_isSo_681 : decode cL_isSo 681 = .ok (.iload 7, 2) := dd_all DL_isSo_360_ok 8 rfl
theorem dL_isSo_683 : decode cL_isSo 683 = .ok (.ifCond .eq 133, 3) := dd_all DL_isSo_360_ok 9 rfl
theorem dL_isSo_686 : decode cL_isSo 686 = .ok (.iload 5, 2) := dd_all DL_isSo_360_ok 10 rfl
theorem dL_isSo_688 : decode cL_isSo 688 = .ok (.aload_n 1, 1) := dd_all DL_isSo_360_ok 11 rfl
theorem dL_isSo_689 : decode cL_isSo 689 = .ok (.bipush 8, 2) := dd_all DL_isSo_360_ok 12 rfl
theorem dL_isSo_691 : decode cL_isSo 691 = .ok (.iaload, 1) := dd_all DL_isSo_360_ok 13 rfl
theorem dL_isSo_692 : decode cL_isSo 692 = .ok (.if_icmp .gt 124, 3) := dd_all DL_isSo_360_ok 14 rfl
theorem dL_isSo_695 : decode cL_isSo 695 = .ok (.aload_n 0, 1) := dd_all DL_isSo_360_ok 15 rfl
theorem dL_isSo_696 : decode cL_isSo 696 = .ok (.iload 10, 2) := dd_all DL_isSo_360_ok 16 rfl
theorem dL_isSo_698 : decode cL_isSo 698 = .ok (.invokevirtual 112, 3) := dd_all DL_isSo_360_ok 17 rfl
theorem dL_isSo_701 : decode cL_isSo 701 = .ok (.bipush (-4), 2) := dd_all DL_isSo_360_ok 18 rfl
theorem dL_isSo_703 : decode cL_isSo 703 = .ok (.if_icmp .ne 113, 3) := dd_all DL_isSo_360_ok 19 rfl
theorem dL_isSo_706 : decode cL_isSo 706 = .ok (.aload_n 0, 1) := dd_all DL_isSo_360_ok 20 rfl
theorem dL_isSo_707 : decode cL_isSo 707 = .ok (.invokevirtual 118, 3) := dd_all DL_isSo_360_ok 21 rfl
theorem dL_isSo_710 : decode cL_isSo 710 = .ok (.aload_n 1, 1) := dd_all DL_isSo_360_ok 22 rfl
theorem dL_isSo_711 : decode cL_isSo 711 = .ok (.aload_n 2, 1) := dd_all DL_isSo_360_ok 23 rfl
theorem dL_isSo_712 : decode cL_isSo 712 = .ok (.invokestatic 68, 3) := dd_all DL_isSo_360_ok 24 rfl
theorem dL_isSo_715 : decode cL_isSo 715 = .ok (.if_icmp .ne 101, 3) := dd_all DL_isSo_360_ok 25 rfl
theorem dL_isSo_718 : decode cL_isSo 718 = .ok (.aload_n 0, 1) := dd_all DL_isSo_360_ok 26 rfl
theorem dL_isSo_719 : decode cL_isSo 719 = .ok (.iconst 0, 1) := dd_all DL_isSo_360_ok 27 rfl
theorem dL_isSo_720 : decode cL_isSo 720 = .ok (.invokevirtual 122, 3) := dd_all DL_isSo_360_ok 28 rfl
theorem dL_isSo_723 : decode cL_isSo 723 = .ok (.aload_n 1, 1) := dd_all DL_isSo_360_ok 29 rfl
theorem dL_isSo_724 : decode cL_isSo 724 = .ok (.iconst 0, 1) := dd_all DL_isSo_360_ok 30 rfl
theorem dL_isSo_725 : decode cL_isSo 725 = .ok (.iaload, 1) := dd_all DL_isSo_360_ok 31 rfl
theorem dL_isSo_726 : decode cL_isSo 726 = .ok (.if_icmp .ne 90, 3) := dd_all DL_isSo_360_ok 32 rfl
theorem dL_isSo_729 : decode cL_isSo 729 = .ok (.aload_n 0, 1) := dd_all DL_isSo_360_ok 33 rfl
theorem dL_isSo_730 : decode cL_isSo 730 = .ok (.iconst 1, 1) := dd_all DL_isSo_360_ok 34 rfl
theorem dL_isSo_731 : decode cL_isSo 731 = .ok (.invokevirtual 122, 3) := dd_all DL_isSo_360_ok 35 rfl
theorem dL_isSo_734 : decode cL_isSo 734 = .ok (.iload 10, 2) := dd_all DL_isSo_360_ok 36 rfl
theorem dL_isSo_736 : decode cL_isSo 736 = .ok (.if_icmp .ne 80, 3) := dd_all DL_isSo_360_ok 37 rfl
theorem dL_isSo_739 : decode cL_isSo 739 = .ok (.aload_n 0, 1) := dd_all DL_isSo_360_ok 38 rfl
theorem dL_isSo_740 : decode cL_isSo 740 = .ok (.iconst 2, 1) := dd_all DL_isSo_360_ok 39 rfl
def DL_isSo_400 : List (Nat × Instr × Nat) := [(741, .invokevirtual 122, 3), (744, .aload_n 1, 1), (745, .bipush 6, 2), (747, .iaload, 1), (748, .iload 10, 2), (750, .if_icmp .le 13, 3), (753, .aload_n 1, 1), (754, .bipush 6, 2), (756, .iaload, 1), (757, .iload 10, 2), (759, .isub, 1), (760, .goto 4, 3), (763, .iconst 0, 1), (764, .if_icmp .ne 52, 3), (767, .aload_n 0, 1), (768, .iconst 3, 1), (769, .invokevirtual 122, 3), (772, .aload_n 1, 1), (773, .aload_n 2, 1), (774, .iconst 5, 1), (775, .invokestatic 36, 3), (778, .if_icmp .ne 38, 3), (781, .aload_n 0, 1), (782, .iconst 4, 1), (783, .invokevirtual 122, 3), (786, .iload 4, 2), (788, .if_icmp .ne 28, 3), (791, .aload_n 0, 1), (792, .iconst 5, 1), (793, .invokevirtual 122, 3), (796, .aload_n 1, 1), (797, .iconst 1, 1), (798, .iaload, 1), (799, .if_icmp .ne 17, 3), (802, .aload_n 0, 1), (803, .bipush 6, 2), (805, .invokevirtual 122, 3), (808, .iload_n 3, 1), (809, .if_icmp .ne 7, 3), (812, .iconst 1, 1)]
theorem DL_isSo_400_ok : ∀ q ∈ DL_isSo_400, decode cL_isSo q.1 = .ok (q.2.1, q.2.2) := by decide +kernel
theorem dL_isSo_741 : decode cL_isSo 741 = .ok (.invokevirtual 122, 3) := dd_all DL_isSo_400_ok 0 rfl
theorem dL_isSo_744 : decode cL_isSo 744 = .ok (.aload_n 1, 1) := dd_all DL_isSo_400_ok 1 rfl
theorem dL_isSo_745 : decode cL_isSo 745 = .ok (.bipush 6, 2) := dd_all DL_isSo_400_ok 2 rfl
theorem dL_isSo_747 : decode cL_isSo 747 = .ok (.iaload, 1) := dd_all DL_isSo_400_ok 3 rfl
theorem dL_isSo_748 : decode cL_isSo 748 = .ok (.iload 10, 2) := dd_all DL_isSo_400_ok 4 rfl
theorem dL_isSo_750 : decode cL_isSo 750 = .ok (.if_icmp .le 13, 3) := dd_all DL_isSo_400_ok 5 rfl
theorem dL_isSo_753 : decode cL_isSo 753 = .ok (.aload_n 1, 1) := dd_all DL_isSo_400_ok 6 rfl
theorem dL_isSo_754 : decode cL_isSo 754 = .ok (.bipush 6, 2) := dd_all DL_isSo_400_ok 7 rfl
theorem dL_isSo_756 : decode cL_isSo 756 = .ok (.iaload, 1) := dd_all DL_isSo_400_ok 8 rfl
theorem dL_isSo_757 : decode cL_isSo 757 = .ok (.iload 10, 2) := dd_all DL_isSo_400_ok 9 rfl
theorem dL_isSo_759 : decode cL_isSo 759 = .ok (.isub, 1) := dd_all DL_isSo_400_ok 10 rfl
theorem dL_isSo_760 : decode cL_isSo 760 = .ok (.goto 4, 3) := dd_all DL_isSo_400_ok 11 rfl
theorem dL_isSo_763 : decode cL_isSo 763 = .ok (.iconst 0, 1) := dd_all DL_isSo_400_ok 12 rfl
theorem dL_isSo_764 : decode cL_isSo 764 = .ok (.if_icmp .ne 52, 3) := dd_all DL_isSo_400_ok 13 rfl
theorem dL_isSo_767 : decode cL_isSo 767 = .ok (.aload_n 0, 1) := dd_all DL_isSo_400_ok 14 rfl
theorem dL_isSo_768 : decode cL_isSo 768 = .ok (.iconst 3, 1) := dd_all DL_isSo_400_ok 15 rfl
theorem dL_isSo_769 : decode cL_isSo 769 = .ok (.invokevirtual 122, 3) := dd_all DL_isSo_400_ok 16 rfl
theorem dL_isSo_772 : decode cL_isSo 772 = .ok (.aload_n 1, 1) := dd_all DL_isSo_400_ok 17 rfl
theorem dL_isSo_773 : decode cL_isSo 773 = .ok (.aload_n 2, 1) := dd_all DL_isSo_400_ok 18 rfl
theorem dL_isSo_774 : decode cL_isSo 774 = .ok (.iconst 5, 1) := dd_all DL_isSo_400_ok 19 rfl
theorem dL_isSo_775 : decode cL_isSo 775 = .ok (.invokestatic 36, 3) := dd_all DL_isSo_400_ok 20 rfl
theorem dL_isSo_778 : decode cL_isSo 778 = .ok (.if_icmp .ne 38, 3) := dd_all DL_isSo_400_ok 21 rfl
theorem dL_isSo_781 : decode cL_isSo 781 = .ok (.aload_n 0, 1) := dd_all DL_isSo_400_ok 22 rfl
theorem dL_isSo_782 : decode cL_isSo 782 = .ok (.iconst 4, 1) := dd_all DL_isSo_400_ok 23 rfl
theorem dL_isSo_783 : decode cL_isSo 783 = .ok (.invokevirtual 122, 3) := dd_all DL_isSo_400_ok 24 rfl
theorem dL_isSo_786 : decode cL_isSo 786 = .ok (.iload 4, 2) := dd_all DL_isSo_400_ok 25 rfl
theorem dL_isSo_788 : decode cL_isSo 788 = .ok (.if_icmp .ne 28, 3) := dd_all DL_isSo_400_ok 26 rfl
theorem dL_isSo_791 : decode cL_isSo 791 = .ok (.aload_n 0, 1) := dd_all DL_isSo_400_ok 27 rfl
theorem dL_isSo_792 : decode cL_isSo 792 = .ok (.iconst 5, 1) := dd_all DL_isSo_400_ok 28 rfl
theorem dL_isSo_793 : decode cL_isSo 793 = .ok (.invokevirtual 122, 3) := dd_all DL_isSo_400_ok 29 rfl
theorem dL_isSo_796 : decode cL_isSo 796 = .ok (.aload_n 1, 1) := dd_all DL_isSo_400_ok 30 rfl
theorem dL_isSo_797 : decode cL_isSo 797 = .ok (.iconst 1, 1) := dd_all DL_isSo_400_ok 31 rfl
theorem dL_isSo_798 : decode cL_isSo 798 = .ok (.iaload, 1) := dd_all DL_isSo_400_ok 32 rfl
theorem dL_isSo_799 : decode cL_isSo 799 = .ok (.if_icmp .ne 17, 3) := dd_all DL_isSo_400_ok 33 rfl
theorem dL_isSo_802 : decode cL_isSo 802 = .ok (.aload_n 0, 1) := dd_all DL_isSo_400_ok 34 rfl
theorem dL_isSo_803 : decode cL_isSo 803 = .ok (.bipush 6, 2) := dd_all DL_isSo_400_ok 35 rfl
theorem dL_isSo_805 : decode cL_isSo 805 = .ok (.invokevirtual 122, 3) := dd_all DL_isSo_400_ok 36 rfl
theorem dL_isSo_808 : decode cL_isSo 808 = .ok (.iload_n 3, 1) := dd_all DL_isSo_400_ok 37 rfl
theorem dL_isSo_809 : decode cL_isSo 809 = .ok (.if_icmp .ne 7, 3) := dd_all DL_isSo_400_ok 38 rfl
theorem dL_isSo_812 : decode cL_isSo 812 = .ok (.iconst 1, 1) := dd_all DL_isSo_400_ok 39 rfl
def DL_isSo_440 : List (Nat × Instr × Nat) := [(813, .goto 4, 3), (816, .iconst 0, 1), (817, .istore 7, 2), (819, .iload 7, 2), (821, .ifCond .eq 111, 3), (824, .aload_n 0, 1), (825, .bipush 7, 2), (827, .invokevirtual 122, 3), (830, .iload 5, 2), (832, .if_icmp .ne 100, 3), (835, .aload_n 0, 1), (836, .bipush 8, 2), (838, .invokevirtual 122, 3), (841, .aload_n 1, 1), (842, .iconst 2, 1), (843, .iaload, 1), (844, .if_icmp .ne 88, 3), (847, .aload_n 0, 1), (848, .bipush 9, 2), (850, .invokevirtual 122, 3), (853, .aload_n 1, 1), (854, .iconst 3, 1), (855, .iaload, 1), (856, .if_icmp .ne 76, 3), (859, .aload_n 0, 1), (860, .bipush 10, 2), (862, .invokevirtual 122, 3), (865, .aload_n 1, 1), (866, .iconst 4, 1), (867, .iaload, 1), (868, .if_icmp .ne 64, 3), (871, .aload_n 0, 1), (872, .bipush 12, 2), (874, .invokevirtual 122, 3), (877, .ifCond .ne 55, 3), (880, .aload_n 0, 1), (881, .bipush 20, 2), (883, .invokevirtual 122, 3), (886, .aload_n 1, 1), (887, .bipush 6, 2)]
theorem DL_isSo_440_ok : ∀ q ∈ DL_isSo_440, decode cL_isSo q.1 = .ok (q.2.1, q.2.2) := by decide +kernel
theorem dL_isSo_813 : decode cL_isSo 813 = .ok (.goto 4, 3) := dd_all DL_isSo_440_ok 0 rfl
theorem dL_isSo_816 : decode cL_isSo 816 = .ok (.iconst 0, 1) := dd_all DL_isSo_440_ok 1 rfl
theorem dL_isSo_817 : decode cL_isSo 817 = .ok (.istore 7, 2) := dd_all DL_isSo_440_ok 2 rfl
theorem dL_isSo_819 : decode cL_isSo 819 = .ok (.iload 7, 2) := dd_all DL_isSo_440_ok 3 rfl
theorem dL_isSo_821 : decode cL_isSo 821 = .ok (.ifCond .eq 111, 3) := dd_all DL_isSo_440_ok 4 rfl
theorem dL_isSo_824 : decode cL_isSo 824 = .ok (.aload_n 0, 1) := dd_all DL_isSo_440_ok 5 rfl
theorem dL_isSo_825 : decode cL_isSo 825 = .ok (.bipush 7, 2) := dd_all DL_isSo_440_ok 6 rfl
theorem dL_isSo_827 : decode cL_isSo 827 = .ok (.invokevirtual 122, 3) := dd_all DL_isSo_440_ok 7 rfl
theorem dL_isSo_830 : decode cL_isSo 830 = .ok (.iload 5, 2) := dd_all DL_isSo_440_ok 8 rfl
theorem dL_isSo_832 : decode cL_isSo 832 = .ok (.if_icmp .ne 100, 3) := dd_all DL_isSo_440_ok 9 rfl
theorem dL_isSo_835 : decode cL_isSo 835 = .ok (.aload_n 0, 1) := dd_all DL_isSo_440_ok 10 rfl
theorem dL_isSo_836 : decode cL_isSo 836 = .ok (.bipush 8, 2) := dd_all DL_isSo_440_ok 11 rfl
theorem dL_isSo_838 : decode cL_isSo 838 = .ok (.invokevirtual 122, 3) := dd_all DL_isSo_440_ok 12 rfl
theorem dL_isSo_841 : decode cL_isSo 841 = .ok (.aload_n 1, 1) := dd_all DL_isSo_440_ok 13 rfl
theorem dL_isSo_842 : decode cL_isSo 842 = .ok (.iconst 2, 1) := dd_all DL_isSo_440_ok 14 rfl
theorem dL_isSo_843 : decode cL_isSo 843 = .ok (.iaload, 1) := dd_all DL_isSo_440_ok 15 rfl
theorem dL_isSo_844 : decode cL_isSo 844 = .ok (.if_icmp .ne 88, 3) := dd_all DL_isSo_440_ok 16 rfl
theorem dL_isSo_847 : decode cL_isSo 847 = .ok (.aload_n 0, 1) := dd_all DL_isSo_440_ok 17 rfl
theorem dL_isSo_848 : decode cL_isSo 848 = .ok (.bipush 9, 2) := dd_all DL_isSo_440_ok 18 rfl
theorem dL_isSo_850 : decode cL_isSo 850 = .ok (.invokevirtual 122, 3) := dd_all DL_isSo_440_ok 19 rfl
theorem dL_isSo_853 : decode cL_isSo 853 = .ok (.aload_n 1, 1) := dd_all DL_isSo_440_ok 20 rfl
theorem dL_isSo_854 : decode cL_isSo 854 = .ok (.iconst 3, 1) := dd_all DL_isSo_440_ok 21 rfl
theorem dL_isSo_855 : decode cL_isSo 855 = .ok (.iaload, 1) := dd_all DL_isSo_440_ok 22 rfl
theorem dL_isSo_856 : decode cL_isSo 856 = .ok (.if_icmp .ne 76, 3) := dd_all DL_isSo_440_ok 23 rfl
theorem dL_isSo_859 : decode cL_isSo 859 = .ok (.aload_n 0, 1) := dd_all DL_isSo_440_ok 24 rfl
theorem dL_isSo_860 : decode cL_isSo 860 = .ok (.bipush 10, 2) := dd_all DL_isSo_440_ok 25 rfl
theorem dL_isSo_862 : decode cL_isSo 862 = .ok (.invokevirtual 122, 3) := dd_all DL_isSo_440_ok 26 rfl
theorem dL_isSo_865 : decode cL_isSo 865 = .ok (.aload_n 1, 1) := dd_all DL_isSo_440_ok 27 rfl
theorem dL_isSo_866 : decode cL_isSo 866 = .ok (.iconst 4, 1) := dd_all DL_isSo_440_ok 28 rfl
theorem dL_isSo_867 : decode cL_isSo 867 = .ok (.iaload, 1) := dd_all DL_isSo_440_ok 29 rfl
theorem dL_isSo_868 : decode cL_isSo 868 = .ok (.if_icmp .ne 64, 3) := dd_all DL_isSo_440_ok 30 rfl
theorem dL_isSo_871 : decode cL_isSo 871 = .ok (.aload_n 0, 1) := dd_all DL_isSo_440_ok 31 rfl
theorem dL_isSo_872 : decode cL_isSo 872 = .ok (.bipush 12, 2) := dd_all DL_isSo_440_ok 32 rfl
theorem dL_isSo_874 : decode cL_isSo 874 = .ok (.invokevirtual 122, 3) := dd_all DL_isSo_440_ok 33 rfl
theorem dL_isSo_877 : decode cL_isSo 877 = .ok (.ifCond .ne 55, 3) := dd_all DL_isSo_440_ok 34 rfl
theorem dL_isSo_880 : decode cL_isSo 880 = .ok (.aload_n 0, 1) := dd_all DL_isSo_440_ok 35 rfl
theorem dL_isSo_881 : decode cL_isSo 881 = .ok (.bipush 20, 2) := dd_all DL_isSo_440_ok 36 rfl
theorem dL_isSo_883 : decode cL_isSo 883 = .ok (.invokevirtual 122, 3) := dd_all DL_isSo_440_ok 37 rfl
theorem dL_isSo_886 : decode cL_isSo 886 = .ok (.aload_n 1, 1) := dd_all DL_isSo_440_ok 38 rfl
theorem dL_isSo_887 : decode cL_isSo 887 = .ok (.bipush 6, 2) := dd_all DL_isSo_440_ok 39 rfl
def DL_isSo_480 : List (Nat × Instr × Nat) := [(889, .iaload, 1), (890, .if_icmp .ne 42, 3), (893, .aload_n 0, 1), (894, .bipush 21, 2), (896, .invokevirtual 122, 3), (899, .aload_n 1, 1), (900, .bipush 7, 2), (902, .iaload, 1), (903, .if_icmp .ne 29, 3), (906, .aload_n 0, 1), (907, .bipush 22, 2), (909, .invokevirtual 122, 3), (912, .aload_n 1, 1), (913, .bipush 8, 2), (915, .iaload, 1), (916, .if_icmp .ne 16, 3), (919, .aload_n 0, 1), (920, .invokevirtual 125, 3), (923, .iload 5, 2), (925, .if_icmp .ne 7, 3), (928, .iconst 1, 1), (929, .goto 4, 3), (932, .iconst 0, 1), (933, .ireturn, 1)]
theorem DL_isSo_480_ok : ∀ q ∈ DL_isSo_480, decode cL_isSo q.1 = .ok (q.2.1, q.2.2) := by decide +kernel
theorem dL_isSo_889 : decode cL_isSo 889 = .ok (.iaload, 1) := dd_all DL_isSo_480_ok 0 rfl
theorem dL_isSo_890 : decode cL_isSo 890 = .ok (.if_icmp .ne 42, 3) := dd_all DL_isSo_480_ok 1 rfl
theorem dL_isSo_893 : decode cL_isSo 893 = .ok (.aload_n 0, 1) := dd_all DL_isSo_480_ok 2 rfl
theorem dL_isSo_894 : decode cL_isSo 894 = .ok (.bipush 21, 2) := dd_all DL_isSo_480_ok 3 rfl
theorem dL_isSo_896 : decode cL_isSo 896 = .ok (.invokevirtual 122, 3) := dd_all DL_isSo_480_ok 4 rfl
theorem dL_isSo_899 : decode cL_isSo 899 = .ok (.aload_n 1, 1) := dd_all DL_isSo_480_ok 5 rfl
theorem dL_isSo_900 : decode cL_isSo 900 = .ok (.bipush 7, 2) := dd_all DL_isSo_480_ok 6 rfl
theorem dL_isSo_902 : decode cL_isSo 902 = .ok (.iaload, 1) := dd_all DL_isSo_480_ok 7 rfl
theorem dL_isSo_903 : decode cL_isSo 903 = .ok (.if_icmp .ne 29, 3) := dd_all DL_isSo_480_ok 8 rfl
theorem dL_isSo_906 : decode cL_isSo 906 = .ok (.aload_n 0, 1) := dd_all DL_isSo_480_ok 9 rfl
theorem dL_isSo_907 : decode cL_isSo 907 = .ok (.bipush 22, 2) := dd_all DL_isSo_480_ok 10 rfl
theorem dL_isSo_909 : decode cL_isSo 909 = .ok (.invokevirtual 122, 3) := dd_all DL_isSo_480_ok 11 rfl
theorem dL_isSo_912 : decode cL_isSo 912 = .ok (.aload_n 1, 1) := dd_all DL_isSo_480_ok 12 rfl
theorem dL_isSo_913 : decode cL_isSo 913 = .ok (.bipush 8, 2) := dd_all DL_isSo_480_ok 13 rfl
theorem dL_isSo_915 : decode cL_isSo 915 = .ok (.iaload, 1) := dd_all DL_isSo_480_ok 14 rfl
theorem dL_isSo_916 : decode cL_isSo 916 = .ok (.if_icmp .ne 16, 3) := dd_all DL_isSo_480_ok 15 rfl
theorem dL_isSo_919 : decode cL_isSo 919 = .ok (.aload_n 0, 1) := dd_all DL_isSo_480_ok 16 rfl
theorem dL_isSo_920 : decode cL_isSo 920 = .ok (.invokevirtual 125, 3) := dd_all DL_isSo_480_ok 17 rfl
theorem dL_isSo_923 : decode cL_isSo 923 = .ok (.iload 5, 2) := dd_all DL_isSo_480_ok 18 rfl
theorem dL_isSo_925 : decode cL_isSo 925 = .ok (.if_icmp .ne 7, 3) := dd_all DL_isSo_480_ok 19 rfl
theorem dL_isSo_928 : decode cL_isSo 928 = .ok (.iconst 1, 1) := dd_all DL_isSo_480_ok 20 rfl
theorem dL_isSo_929 : decode cL_isSo 929 = .ok (.goto 4, 3) := dd_all DL_isSo_480_ok 21 rfl
theorem dL_isSo_932 : decode cL_isSo 932 = .ok (.iconst 0, 1) := dd_all DL_isSo_480_ok 22 rfl
theorem dL_isSo_933 : decode cL_isSo 933 = .ok (.ireturn, 1) := dd_all DL_isSo_480_ok 23 rfl
def DL_law_0 : List (Nat × Instr × Nat) := [(0, .new 63, 3), (3, .dup, 1), (4, .invokespecial 128, 3), (7, .astore_n 1, 1), (8, .bipush 9, 2), (10, .newarray .int, 2), (12, .astore_n 2, 1), (13, .bipush 64, 2), (15, .newarray .long, 2), (17, .astore_n 3, 1), (18, .aload_n 2, 1), (19, .bipush 6, 2), (21, .iconst 4, 1), (22, .iastore, 1), (23, .aload_n 2, 1), (24, .bipush 8, 2), (26, .sipush 2500, 3), (29, .iastore, 1), (30, .aload_n 1, 1), (31, .aload_n 2, 1), (32, .aload_n 3, 1), (33, .invokestatic 129, 3), (36, .istore 4, 2), (38, .bipush 10, 2), (40, .aload_n 0, 1), (41, .iconst 0, 1), (42, .invokestatic 133, 3), (45, .bipush 45, 2), (47, .invokestatic 76, 3), (50, .iadd, 1), (51, .istore 5, 2), (53, .iconst 0, 1), (54, .istore 6, 2), (56, .iload 6, 2), (58, .iload 5, 2), (60, .if_icmp .ge 80, 3), (63, .iload 4, 2), (65, .ifCond .eq 75, 3), (68, .aload_n 0, 1), (69, .iconst 1, 1)]
theorem DL_law_0_ok : ∀ q ∈ DL_law_0, decode cL_law q.1 = .ok (q.2.1, q.2.2) := by decide +kernel
theorem dL_law_0 : decode cL_law 0 = .ok (.new 63, 3) := dd_all DL_law_0_ok 0 rfl
theorem dL_law_3 : decode cL_law 3 = .ok (.dup, 1) := dd_all DL_law_0_ok 1 rfl
theorem dL_law_4 : decode cL_law 4 = .ok (.invokespecial 128, 3) := dd_all DL_law_0_ok 2 rfl
theorem dL_law_7 : decode cL_law 7 = .ok (.astore_n 1, 1) := dd_all DL_law_0_ok 3 rfl
theorem dL_law_8 : decode cL_law 8 = .ok (.bipush 9, 2) := dd_all DL_law_0_ok 4 rfl
theorem dL_law_10 : decode cL_law 10 = .ok (.newarray .int, 2) := dd_all DL_law_0_ok 5 rfl
theorem dL_law_12 : decode cL_law 12 = .ok (.astore_n 2, 1) := dd_all DL_law_0_ok 6 rfl
theorem dL_law_13 : decode cL_law 13 = .ok (.bipush 64, 2) := dd_all DL_law_0_ok 7 rfl
theorem dL_law_15 : decode cL_law 15 = .ok (.newarray .long, 2) := dd_all DL_law_0_ok 8 rfl
theorem dL_law_17 : decode cL_law 17 = .ok (.astore_n 3, 1) := dd_all DL_law_0_ok 9 rfl
theorem dL_law_18 : decode cL_law 18 = .ok (.aload_n 2, 1) := dd_all DL_law_0_ok 10 rfl
theorem dL_law_19 : decode cL_law 19 = .ok (.bipush 6, 2) := dd_all DL_law_0_ok 11 rfl
theorem dL_law_21 : decode cL_law 21 = .ok (.iconst 4, 1) := dd_all DL_law_0_ok 12 rfl
theorem dL_law_22 : decode cL_law 22 = .ok (.iastore, 1) := dd_all DL_law_0_ok 13 rfl
theorem dL_law_23 : decode cL_law 23 = .ok (.aload_n 2, 1) := dd_all DL_law_0_ok 14 rfl
theorem dL_law_24 : decode cL_law 24 = .ok (.bipush 8, 2) := dd_all DL_law_0_ok 15 rfl
theorem dL_law_26 : decode cL_law 26 = .ok (.sipush 2500, 3) := dd_all DL_law_0_ok 16 rfl
theorem dL_law_29 : decode cL_law 29 = .ok (.iastore, 1) := dd_all DL_law_0_ok 17 rfl
theorem dL_law_30 : decode cL_law 30 = .ok (.aload_n 1, 1) := dd_all DL_law_0_ok 18 rfl
theorem dL_law_31 : decode cL_law 31 = .ok (.aload_n 2, 1) := dd_all DL_law_0_ok 19 rfl
theorem dL_law_32 : decode cL_law 32 = .ok (.aload_n 3, 1) := dd_all DL_law_0_ok 20 rfl
theorem dL_law_33 : decode cL_law 33 = .ok (.invokestatic 129, 3) := dd_all DL_law_0_ok 21 rfl
theorem dL_law_36 : decode cL_law 36 = .ok (.istore 4, 2) := dd_all DL_law_0_ok 22 rfl
theorem dL_law_38 : decode cL_law 38 = .ok (.bipush 10, 2) := dd_all DL_law_0_ok 23 rfl
theorem dL_law_40 : decode cL_law 40 = .ok (.aload_n 0, 1) := dd_all DL_law_0_ok 24 rfl
theorem dL_law_41 : decode cL_law 41 = .ok (.iconst 0, 1) := dd_all DL_law_0_ok 25 rfl
theorem dL_law_42 : decode cL_law 42 = .ok (.invokestatic 133, 3) := dd_all DL_law_0_ok 26 rfl
theorem dL_law_45 : decode cL_law 45 = .ok (.bipush 45, 2) := dd_all DL_law_0_ok 27 rfl
theorem dL_law_47 : decode cL_law 47 = .ok (.invokestatic 76, 3) := dd_all DL_law_0_ok 28 rfl
theorem dL_law_50 : decode cL_law 50 = .ok (.iadd, 1) := dd_all DL_law_0_ok 29 rfl
theorem dL_law_51 : decode cL_law 51 = .ok (.istore 5, 2) := dd_all DL_law_0_ok 30 rfl
theorem dL_law_53 : decode cL_law 53 = .ok (.iconst 0, 1) := dd_all DL_law_0_ok 31 rfl
theorem dL_law_54 : decode cL_law 54 = .ok (.istore 6, 2) := dd_all DL_law_0_ok 32 rfl
theorem dL_law_56 : decode cL_law 56 = .ok (.iload 6, 2) := dd_all DL_law_0_ok 33 rfl
theorem dL_law_58 : decode cL_law 58 = .ok (.iload 5, 2) := dd_all DL_law_0_ok 34 rfl
theorem dL_law_60 : decode cL_law 60 = .ok (.if_icmp .ge 80, 3) := dd_all DL_law_0_ok 35 rfl
theorem dL_law_63 : decode cL_law 63 = .ok (.iload 4, 2) := dd_all DL_law_0_ok 36 rfl
theorem dL_law_65 : decode cL_law 65 = .ok (.ifCond .eq 75, 3) := dd_all DL_law_0_ok 37 rfl
theorem dL_law_68 : decode cL_law 68 = .ok (.aload_n 0, 1) := dd_all DL_law_0_ok 38 rfl
theorem dL_law_69 : decode cL_law 69 = .ok (.iconst 1, 1) := dd_all DL_law_0_ok 39 rfl
def DL_law_40 : List (Nat × Instr × Nat) := [(70, .iload 6, 2), (72, .iadd, 1), (73, .invokestatic 133, 3), (76, .sipush 7919, 3), (79, .iload 6, 2), (81, .imul, 1), (82, .ixor, 1), (83, .istore 7, 2), (85, .aload_n 1, 1), (86, .aload_n 2, 1), (87, .aload_n 3, 1), (88, .iload 6, 2), (90, .iconst 4, 1), (91, .if_icmp .ge 19, 3), (94, .iload 7, 2), (96, .ldc 8, 2), (98, .iand, 1), (99, .sipush 640, 3), (102, .idiv, 1), (103, .sipush 640, 3), (106, .imul, 1), (107, .goto 5, 3), (110, .iload 7, 2), (112, .invokestatic 137, 3), (115, .ifCond .eq 16, 3), (118, .aload_n 1, 1), (119, .aload_n 2, 1), (120, .aload_n 3, 1), (121, .invokestatic 129, 3), (124, .ifCond .eq 7, 3), (127, .iconst 1, 1), (128, .goto 4, 3), (131, .iconst 0, 1), (132, .istore 4, 2), (134, .iinc 6 1, 3), (137, .goto (-81), 3), (140, .iload 4, 2), (142, .ifCond .eq 100, 3), (145, .aload_n 1, 1), (146, .bipush 13, 2)]
theorem DL_law_40_ok : ∀ q ∈ DL_law_40, decode cL_law q.1 = .ok (q.2.1, q.2.2) := by decide +kernel
theorem dL_law_70 : decode cL_law 70 = .ok (.iload 6, 2) := dd_all DL_law_40_ok 0 rfl
theorem dL_law_72 : decode cL_law 72 = .ok (.iadd, 1) := dd_all DL_law_40_ok 1 rfl
theorem dL_law_73 : decode cL_law 73 = .ok (.invokestatic 133, 3) := dd_all DL_law_40_ok 2 rfl
theorem dL_law_76 : decode cL_law 76 = .ok (.sipush 7919, 3) := dd_all DL_law_40_ok 3 rfl
theorem dL_law_79 : decode cL_law 79 = .ok (.iload 6, 2) := dd_all DL_law_40_ok 4 rfl
theorem dL_law_81 : decode cL_law 81 = .ok (.imul, 1) := dd_all DL_law_40_ok 5 rfl
theorem dL_law_82 : decode cL_law 82 = .ok (.ixor, 1) := dd_all DL_law_40_ok 6 rfl
theorem dL_law_83 : decode cL_law 83 = .ok (.istore 7, 2) := dd_all DL_law_40_ok 7 rfl
theorem dL_law_85 : decode cL_law 85 = .ok (.aload_n 1, 1) := dd_all DL_law_40_ok 8 rfl
theorem dL_law_86 : decode cL_law 86 = .ok (.aload_n 2, 1) := dd_all DL_law_40_ok 9 rfl
theorem dL_law_87 : decode cL_law 87 = .ok (.aload_n 3, 1) := dd_all DL_law_40_ok 10 rfl
theorem dL_law_88 : decode cL_law 88 = .ok (.iload 6, 2) := dd_all DL_law_40_ok 11 rfl
theorem dL_law_90 : decode cL_law 90 = .ok (.iconst 4, 1) := dd_all DL_law_40_ok 12 rfl
theorem dL_law_91 : decode cL_law 91 = .ok (.if_icmp .ge 19, 3) := dd_all DL_law_40_ok 13 rfl
theorem dL_law_94 : decode cL_law 94 = .ok (.iload 7, 2) := dd_all DL_law_40_ok 14 rfl
theorem dL_law_96 : decode cL_law 96 = .ok (.ldc 8, 2) := dd_all DL_law_40_ok 15 rfl
theorem dL_law_98 : decode cL_law 98 = .ok (.iand, 1) := dd_all DL_law_40_ok 16 rfl
theorem dL_law_99 : decode cL_law 99 = .ok (.sipush 640, 3) := dd_all DL_law_40_ok 17 rfl
theorem dL_law_102 : decode cL_law 102 = .ok (.idiv, 1) := dd_all DL_law_40_ok 18 rfl
theorem dL_law_103 : decode cL_law 103 = .ok (.sipush 640, 3) := dd_all DL_law_40_ok 19 rfl
theorem dL_law_106 : decode cL_law 106 = .ok (.imul, 1) := dd_all DL_law_40_ok 20 rfl
theorem dL_law_107 : decode cL_law 107 = .ok (.goto 5, 3) := dd_all DL_law_40_ok 21 rfl
theorem dL_law_110 : decode cL_law 110 = .ok (.iload 7, 2) := dd_all DL_law_40_ok 22 rfl
theorem dL_law_112 : decode cL_law 112 = .ok (.invokestatic 137, 3) := dd_all DL_law_40_ok 23 rfl
theorem dL_law_115 : decode cL_law 115 = .ok (.ifCond .eq 16, 3) := dd_all DL_law_40_ok 24 rfl
theorem dL_law_118 : decode cL_law 118 = .ok (.aload_n 1, 1) := dd_all DL_law_40_ok 25 rfl
theorem dL_law_119 : decode cL_law 119 = .ok (.aload_n 2, 1) := dd_all DL_law_40_ok 26 rfl
theorem dL_law_120 : decode cL_law 120 = .ok (.aload_n 3, 1) := dd_all DL_law_40_ok 27 rfl
theorem dL_law_121 : decode cL_law 121 = .ok (.invokestatic 129, 3) := dd_all DL_law_40_ok 28 rfl
theorem dL_law_124 : decode cL_law 124 = .ok (.ifCond .eq 7, 3) := dd_all DL_law_40_ok 29 rfl
theorem dL_law_127 : decode cL_law 127 = .ok (.iconst 1, 1) := dd_all DL_law_40_ok 30 rfl
theorem dL_law_128 : decode cL_law 128 = .ok (.goto 4, 3) := dd_all DL_law_40_ok 31 rfl
theorem dL_law_131 : decode cL_law 131 = .ok (.iconst 0, 1) := dd_all DL_law_40_ok 32 rfl
theorem dL_law_132 : decode cL_law 132 = .ok (.istore 4, 2) := dd_all DL_law_40_ok 33 rfl
theorem dL_law_134 : decode cL_law 134 = .ok (.iinc 6 1, 3) := dd_all DL_law_40_ok 34 rfl
theorem dL_law_137 : decode cL_law 137 = .ok (.goto (-81), 3) := dd_all DL_law_40_ok 35 rfl
theorem dL_law_140 : decode cL_law 140 = .ok (.iload 4, 2) := dd_all DL_law_40_ok 36 rfl
theorem dL_law_142 : decode cL_law 142 = .ok (.ifCond .eq 100, 3) := dd_all DL_law_40_ok 37 rfl
theorem dL_law_145 : decode cL_law 145 = .ok (.aload_n 1, 1) := dd_all DL_law_40_ok 38 rfl
theorem dL_law_146 : decode cL_law 146 = .ok (.bipush 13, 2) := dd_all DL_law_40_ok 39 rfl
def DL_law_80 : List (Nat × Instr × Nat) := [(148, .invokevirtual 122, 3), (151, .iconst (-1), 1), (152, .if_icmp .ne 90, 3), (155, .aload_n 1, 1), (156, .bipush 19, 2), (158, .invokevirtual 122, 3), (161, .iconst (-1), 1), (162, .if_icmp .ne 80, 3), (165, .aload_n 1, 1), (166, .bipush 23, 2), (168, .invokevirtual 122, 3), (171, .iconst (-1), 1), (172, .if_icmp .ne 70, 3), (175, .aload_n 1, 1), (176, .aload_n 2, 1), (177, .iconst 0, 1), (178, .iaload, 1), (179, .iconst 0, 1), (180, .invokevirtual 106, 3), (183, .iconst (-1), 1), (184, .if_icmp .ne 58, 3), (187, .aload_n 1, 1), (188, .iconst (-1), 1), (189, .invokevirtual 112, 3), (192, .iconst (-1), 1), (193, .if_icmp .ne 49, 3), (196, .aload_n 1, 1), (197, .iconst 4, 1), (198, .iconst 0, 1), (199, .invokevirtual 115, 3), (202, .iconst (-1), 1), (203, .if_icmp .ne 39, 3), (206, .aload_n 1, 1), (207, .iconst 0, 1), (208, .sipush 128, 3), (211, .invokevirtual 115, 3), (214, .iconst (-1), 1), (215, .if_icmp .ne 27, 3), (218, .aload_n 1, 1), (219, .iconst 4, 1)]
theorem DL_law_80_ok : ∀ q ∈ DL_law_80, decode cL_law q.1 = .ok (q.2.1, q.2.2) := by decide +kernel
theorem dL_law_148 : decode cL_law 148 = .ok (.invokevirtual 122, 3) := dd_all DL_law_80_ok 0 rfl
theorem dL_law_151 : decode cL_law 151 = .ok (.iconst (-1), 1) := dd_all DL_law_80_ok 1 rfl
theorem dL_law_152 : decode cL_law 152 = .ok (.if_icmp .ne 90, 3) := dd_all DL_law_80_ok 2 rfl
theorem dL_law_155 : decode cL_law 155 = .ok (.aload_n 1, 1) := dd_all DL_law_80_ok 3 rfl
theorem dL_law_156 : decode cL_law 156 = .ok (.bipush 19, 2) := dd_all DL_law_80_ok 4 rfl
theorem dL_law_158 : decode cL_law 158 = .ok (.invokevirtual 122, 3) := dd_all DL_law_80_ok 5 rfl
theorem dL_law_161 : decode cL_law 161 = .ok (.iconst (-1), 1) := dd_all DL_law_80_ok 6 rfl
theorem dL_law_162 : decode cL_law 162 = .ok (.if_icmp .ne 80, 3) := dd_all DL_law_80_ok 7 rfl
theorem dL_law_165 : decode cL_law 165 = .ok (.aload_n 1, 1) := dd_all DL_law_80_ok 8 rfl
theorem dL_law_166 : decode cL_law 166 = .ok (.bipush 23, 2) := dd_all DL_law_80_ok 9 rfl
theorem dL_law_168 : decode cL_law 168 = .ok (.invokevirtual 122, 3) := dd_all DL_law_80_ok 10 rfl
theorem dL_law_171 : decode cL_law 171 = .ok (.iconst (-1), 1) := dd_all DL_law_80_ok 11 rfl
theorem dL_law_172 : decode cL_law 172 = .ok (.if_icmp .ne 70, 3) := dd_all DL_law_80_ok 12 rfl
theorem dL_law_175 : decode cL_law 175 = .ok (.aload_n 1, 1) := dd_all DL_law_80_ok 13 rfl
theorem dL_law_176 : decode cL_law 176 = .ok (.aload_n 2, 1) := dd_all DL_law_80_ok 14 rfl
theorem dL_law_177 : decode cL_law 177 = .ok (.iconst 0, 1) := dd_all DL_law_80_ok 15 rfl
theorem dL_law_178 : decode cL_law 178 = .ok (.iaload, 1) := dd_all DL_law_80_ok 16 rfl
theorem dL_law_179 : decode cL_law 179 = .ok (.iconst 0, 1) := dd_all DL_law_80_ok 17 rfl
theorem dL_law_180 : decode cL_law 180 = .ok (.invokevirtual 106, 3) := dd_all DL_law_80_ok 18 rfl
theorem dL_law_183 : decode cL_law 183 = .ok (.iconst (-1), 1) := dd_all DL_law_80_ok 19 rfl
theorem dL_law_184 : decode cL_law 184 = .ok (.if_icmp .ne 58, 3) := dd_all DL_law_80_ok 20 rfl
theorem dL_law_187 : decode cL_law 187 = .ok (.aload_n 1, 1) := dd_all DL_law_80_ok 21 rfl
theorem dL_law_188 : decode cL_law 188 = .ok (.iconst (-1), 1) := dd_all DL_law_80_ok 22 rfl
theorem dL_law_189 : decode cL_law 189 = .ok (.invokevirtual 112, 3) := dd_all DL_law_80_ok 23 rfl
theorem dL_law_192 : decode cL_law 192 = .ok (.iconst (-1), 1) := dd_all DL_law_80_ok 24 rfl
theorem dL_law_193 : decode cL_law 193 = .ok (.if_icmp .ne 49, 3) := dd_all DL_law_80_ok 25 rfl
theorem dL_law_196 : decode cL_law 196 = .ok (.aload_n 1, 1) := dd_all DL_law_80_ok 26 rfl
theorem dL_law_197 : decode cL_law 197 = .ok (.iconst 4, 1) := dd_all DL_law_80_ok 27 rfl
theorem dL_law_198 : decode cL_law 198 = .ok (.iconst 0, 1) := dd_all DL_law_80_ok 28 rfl
theorem dL_law_199 : decode cL_law 199 = .ok (.invokevirtual 115, 3) := dd_all DL_law_80_ok 29 rfl
theorem dL_law_202 : decode cL_law 202 = .ok (.iconst (-1), 1) := dd_all DL_law_80_ok 30 rfl
theorem dL_law_203 : decode cL_law 203 = .ok (.if_icmp .ne 39, 3) := dd_all DL_law_80_ok 31 rfl
theorem dL_law_206 : decode cL_law 206 = .ok (.aload_n 1, 1) := dd_all DL_law_80_ok 32 rfl
theorem dL_law_207 : decode cL_law 207 = .ok (.iconst 0, 1) := dd_all DL_law_80_ok 33 rfl
theorem dL_law_208 : decode cL_law 208 = .ok (.sipush 128, 3) := dd_all DL_law_80_ok 34 rfl
theorem dL_law_211 : decode cL_law 211 = .ok (.invokevirtual 115, 3) := dd_all DL_law_80_ok 35 rfl
theorem dL_law_214 : decode cL_law 214 = .ok (.iconst (-1), 1) := dd_all DL_law_80_ok 36 rfl
theorem dL_law_215 : decode cL_law 215 = .ok (.if_icmp .ne 27, 3) := dd_all DL_law_80_ok 37 rfl
theorem dL_law_218 : decode cL_law 218 = .ok (.aload_n 1, 1) := dd_all DL_law_80_ok 38 rfl
theorem dL_law_219 : decode cL_law 219 = .ok (.iconst 4, 1) := dd_all DL_law_80_ok 39 rfl
def DL_law_120 : List (Nat × Instr × Nat) := [(220, .iconst 0, 1), (221, .invokevirtual 109, 3), (224, .iconst (-1), 1), (225, .if_icmp .ne 17, 3), (228, .aload_n 1, 1), (229, .iconst 0, 1), (230, .iconst 5, 1), (231, .invokevirtual 109, 3), (234, .iconst (-1), 1), (235, .if_icmp .ne 7, 3), (238, .iconst 1, 1), (239, .goto 4, 3), (242, .iconst 0, 1), (243, .ireturn, 1)]
theorem DL_law_120_ok : ∀ q ∈ DL_law_120, decode cL_law q.1 = .ok (q.2.1, q.2.2) := by decide +kernel
theorem dL_law_220 : decode cL_law 220 = .ok (.iconst 0, 1) := dd_all DL_law_120_ok 0 rfl
theorem dL_law_221 : decode cL_law 221 = .ok (.invokevirtual 109, 3) := dd_all DL_law_120_ok 1 rfl
theorem dL_law_224 : decode cL_law 224 = .ok (.iconst (-1), 1) := dd_all DL_law_120_ok 2 rfl
theorem dL_law_225 : decode cL_law 225 = .ok (.if_icmp .ne 17, 3) := dd_all DL_law_120_ok 3 rfl
theorem dL_law_228 : decode cL_law 228 = .ok (.aload_n 1, 1) := dd_all DL_law_120_ok 4 rfl
theorem dL_law_229 : decode cL_law 229 = .ok (.iconst 0, 1) := dd_all DL_law_120_ok 5 rfl
theorem dL_law_230 : decode cL_law 230 = .ok (.iconst 5, 1) := dd_all DL_law_120_ok 6 rfl
theorem dL_law_231 : decode cL_law 231 = .ok (.invokevirtual 109, 3) := dd_all DL_law_120_ok 7 rfl
theorem dL_law_234 : decode cL_law 234 = .ok (.iconst (-1), 1) := dd_all DL_law_120_ok 8 rfl
theorem dL_law_235 : decode cL_law 235 = .ok (.if_icmp .ne 7, 3) := dd_all DL_law_120_ok 9 rfl
theorem dL_law_238 : decode cL_law 238 = .ok (.iconst 1, 1) := dd_all DL_law_120_ok 10 rfl
theorem dL_law_239 : decode cL_law 239 = .ok (.goto 4, 3) := dd_all DL_law_120_ok 11 rfl
theorem dL_law_242 : decode cL_law 242 = .ok (.iconst 0, 1) := dd_all DL_law_120_ok 12 rfl
theorem dL_law_243 : decode cL_law 243 = .ok (.ireturn, 1) := dd_all DL_law_120_ok 13 rfl
def DX0_init_0 : List (Nat × Instr × Nat) := [(0, .aload_n 0, 1), (1, .invokespecial 3, 3), (4, .aload_n 0, 1), (5, .new 9, 3), (8, .dup, 1), (9, .invokespecial 11, 3), (12, .putfield 12, 3), (15, .aload_n 0, 1), (16, .new 18, 3), (19, .dup, 1), (20, .bipush 8, 2), (22, .invokespecial 20, 3), (25, .putfield 23, 3), (28, .aload_n 0, 1), (29, .new 18, 3), (32, .dup, 1), (33, .iconst 4, 1), (34, .invokespecial 20, 3), (37, .putfield 27, 3), (40, .aload_n 0, 1), (41, .new 18, 3), (44, .dup, 1), (45, .bipush 6, 2), (47, .invokespecial 20, 3), (50, .putfield 30, 3), (53, .aload_n 0, 1), (54, .iconst 3, 1), (55, .newarray .int, 2), (57, .putfield 33, 3), (60, .aload_n 0, 1), (61, .new 37, 3), (64, .dup, 1), (65, .ldc 39, 2), (67, .invokespecial 41, 3), (70, .putfield 44, 3), (73, .getstatic 48, 3), (76, .aload_n 0, 1), (77, .getfield 33, 3), (80, .iconst 3, 1), (81, .invokestatic 51, 3)]
theorem DX0_init_0_ok : ∀ q ∈ DX0_init_0, decode cX0_init q.1 = .ok (q.2.1, q.2.2) := by decide +kernel
theorem dX0_init_0 : decode cX0_init 0 = .ok (.aload_n 0, 1) := dd_all DX0_init_0_ok 0 rfl
theorem dX0_init_1 : decode cX0_init 1 = .ok (.invokespecial 3, 3) := dd_all DX0_init_0_ok 1 rfl
theorem dX0_init_4 : decode cX0_init 4 = .ok (.aload_n 0, 1) := dd_all DX0_init_0_ok 2 rfl
theorem dX0_init_5 : decode cX0_init 5 = .ok (.new 9, 3) := dd_all DX0_init_0_ok 3 rfl
theorem dX0_init_8 : decode cX0_init 8 = .ok (.dup, 1) := dd_all DX0_init_0_ok 4 rfl
theorem dX0_init_9 : decode cX0_init 9 = .ok (.invokespecial 11, 3) := dd_all DX0_init_0_ok 5 rfl
theorem dX0_init_12 : decode cX0_init 12 = .ok (.putfield 12, 3) := dd_all DX0_init_0_ok 6 rfl
theorem dX0_init_15 : decode cX0_init 15 = .ok (.aload_n 0, 1) := dd_all DX0_init_0_ok 7 rfl
theorem dX0_init_16 : decode cX0_init 16 = .ok (.new 18, 3) := dd_all DX0_init_0_ok 8 rfl
theorem dX0_init_19 : decode cX0_init 19 = .ok (.dup, 1) := dd_all DX0_init_0_ok 9 rfl
theorem dX0_init_20 : decode cX0_init 20 = .ok (.bipush 8, 2) := dd_all DX0_init_0_ok 10 rfl
theorem dX0_init_22 : decode cX0_init 22 = .ok (.invokespecial 20, 3) := dd_all DX0_init_0_ok 11 rfl
theorem dX0_init_25 : decode cX0_init 25 = .ok (.putfield 23, 3) := dd_all DX0_init_0_ok 12 rfl
theorem dX0_init_28 : decode cX0_init 28 = .ok (.aload_n 0, 1) := dd_all DX0_init_0_ok 13 rfl
theorem dX0_init_29 : decode cX0_init 29 = .ok (.new 18, 3) := dd_all DX0_init_0_ok 14 rfl
theorem dX0_init_32 : decode cX0_init 32 = .ok (.dup, 1) := dd_all DX0_init_0_ok 15 rfl
theorem dX0_init_33 : decode cX0_init 33 = .ok (.iconst 4, 1) := dd_all DX0_init_0_ok 16 rfl
theorem dX0_init_34 : decode cX0_init 34 = .ok (.invokespecial 20, 3) := dd_all DX0_init_0_ok 17 rfl
theorem dX0_init_37 : decode cX0_init 37 = .ok (.putfield 27, 3) := dd_all DX0_init_0_ok 18 rfl
theorem dX0_init_40 : decode cX0_init 40 = .ok (.aload_n 0, 1) := dd_all DX0_init_0_ok 19 rfl
theorem dX0_init_41 : decode cX0_init 41 = .ok (.new 18, 3) := dd_all DX0_init_0_ok 20 rfl
theorem dX0_init_44 : decode cX0_init 44 = .ok (.dup, 1) := dd_all DX0_init_0_ok 21 rfl
theorem dX0_init_45 : decode cX0_init 45 = .ok (.bipush 6, 2) := dd_all DX0_init_0_ok 22 rfl
theorem dX0_init_47 : decode cX0_init 47 = .ok (.invokespecial 20, 3) := dd_all DX0_init_0_ok 23 rfl
theorem dX0_init_50 : decode cX0_init 50 = .ok (.putfield 30, 3) := dd_all DX0_init_0_ok 24 rfl
theorem dX0_init_53 : decode cX0_init 53 = .ok (.aload_n 0, 1) := dd_all DX0_init_0_ok 25 rfl
theorem dX0_init_54 : decode cX0_init 54 = .ok (.iconst 3, 1) := dd_all DX0_init_0_ok 26 rfl
theorem dX0_init_55 : decode cX0_init 55 = .ok (.newarray .int, 2) := dd_all DX0_init_0_ok 27 rfl
theorem dX0_init_57 : decode cX0_init 57 = .ok (.putfield 33, 3) := dd_all DX0_init_0_ok 28 rfl
theorem dX0_init_60 : decode cX0_init 60 = .ok (.aload_n 0, 1) := dd_all DX0_init_0_ok 29 rfl
theorem dX0_init_61 : decode cX0_init 61 = .ok (.new 37, 3) := dd_all DX0_init_0_ok 30 rfl
theorem dX0_init_64 : decode cX0_init 64 = .ok (.dup, 1) := dd_all DX0_init_0_ok 31 rfl
theorem dX0_init_65 : decode cX0_init 65 = .ok (.ldc 39, 2) := dd_all DX0_init_0_ok 32 rfl
theorem dX0_init_67 : decode cX0_init 67 = .ok (.invokespecial 41, 3) := dd_all DX0_init_0_ok 33 rfl
theorem dX0_init_70 : decode cX0_init 70 = .ok (.putfield 44, 3) := dd_all DX0_init_0_ok 34 rfl
theorem dX0_init_73 : decode cX0_init 73 = .ok (.getstatic 48, 3) := dd_all DX0_init_0_ok 35 rfl
theorem dX0_init_76 : decode cX0_init 76 = .ok (.aload_n 0, 1) := dd_all DX0_init_0_ok 36 rfl
theorem dX0_init_77 : decode cX0_init 77 = .ok (.getfield 33, 3) := dd_all DX0_init_0_ok 37 rfl
theorem dX0_init_80 : decode cX0_init 80 = .ok (.iconst 3, 1) := dd_all DX0_init_0_ok 38 rfl
theorem dX0_init_81 : decode cX0_init 81 = .ok (.invokestatic 51, 3) := dd_all DX0_init_0_ok 39 rfl
def DX0_init_40 : List (Nat × Instr × Nat) := [(84, .return_, 1)]
theorem DX0_init_40_ok : ∀ q ∈ DX0_init_40, decode cX0_init q.1 = .ok (q.2.1, q.2.2) := by decide +kernel
theorem dX0_init_84 : decode cX0_init 84 = .ok (.return_, 1) := dd_all DX0_init_40_ok 0 rfl
def DX0_copyFrom_0 : List (Nat × Instr × Nat) := [(0, .aload_n 0, 1), (1, .getfield 12, 3), (4, .aload_n 1, 1), (5, .getfield 12, 3), (8, .invokevirtual 55, 3), (11, .aload_n 0, 1), (12, .getfield 23, 3), (15, .aload_n 1, 1), (16, .getfield 23, 3), (19, .invokevirtual 59, 3), (22, .aload_n 0, 1), (23, .getfield 27, 3), (26, .aload_n 1, 1), (27, .getfield 27, 3), (30, .invokevirtual 59, 3), (33, .aload_n 0, 1), (34, .getfield 30, 3), (37, .aload_n 1, 1), (38, .getfield 30, 3), (41, .invokevirtual 59, 3), (44, .aload_n 1, 1), (45, .getfield 33, 3), (48, .aload_n 0, 1), (49, .getfield 33, 3), (52, .iconst 3, 1), (53, .invokestatic 51, 3), (56, .aload_n 0, 1), (57, .getfield 44, 3), (60, .aload_n 1, 1), (61, .getfield 44, 3), (64, .invokevirtual 62, 3), (67, .aload_n 0, 1), (68, .aload_n 1, 1), (69, .getfield 65, 3), (72, .putfield 65, 3), (75, .aload_n 0, 1), (76, .aload_n 1, 1), (77, .getfield 69, 3), (80, .putfield 69, 3), (83, .aload_n 0, 1)]
theorem DX0_copyFrom_0_ok : ∀ q ∈ DX0_copyFrom_0, decode cX0_copyFrom q.1 = .ok (q.2.1, q.2.2) := by decide +kernel
theorem dX0_copyFrom_0 : decode cX0_copyFrom 0 = .ok (.aload_n 0, 1) := dd_all DX0_copyFrom_0_ok 0 rfl
theorem dX0_copyFrom_1 : decode cX0_copyFrom 1 = .ok (.getfield 12, 3) := dd_all DX0_copyFrom_0_ok 1 rfl
theorem dX0_copyFrom_4 : decode cX0_copyFrom 4 = .ok (.aload_n 1, 1) := dd_all DX0_copyFrom_0_ok 2 rfl
theorem dX0_copyFrom_5 : decode cX0_copyFrom 5 = .ok (.getfield 12, 3) := dd_all DX0_copyFrom_0_ok 3 rfl
theorem dX0_copyFrom_8 : decode cX0_copyFrom 8 = .ok (.invokevirtual 55, 3) := dd_all DX0_copyFrom_0_ok 4 rfl
theorem dX0_copyFrom_11 : decode cX0_copyFrom 11 = .ok (.aload_n 0, 1) := dd_all DX0_copyFrom_0_ok 5 rfl
theorem dX0_copyFrom_12 : decode cX0_copyFrom 12 = .ok (.getfield 23, 3) := dd_all DX0_copyFrom_0_ok 6 rfl
theorem dX0_copyFrom_15 : decode cX0_copyFrom 15 = .ok (.aload_n 1, 1) := dd_all DX0_copyFrom_0_ok 7 rfl
theorem dX0_copyFrom_16 : decode cX0_copyFrom 16 = .ok (.getfield 23, 3) := dd_all DX0_copyFrom_0_ok 8 rfl
theorem dX0_copyFrom_19 : decode cX0_copyFrom 19 = .ok (.invokevirtual 59, 3) := dd_all DX0_copyFrom_0_ok 9 rfl
theorem dX0_copyFrom_22 : decode cX0_copyFrom 22 = .ok (.aload_n 0, 1) := dd_all DX0_copyFrom_0_ok 10 rfl
theorem dX0_copyFrom_23 : decode cX0_copyFrom 23 = .ok (.getfield 27, 3) := dd_all DX0_copyFrom_0_ok 11 rfl
theorem dX0_copyFrom_26 : decode cX0_copyFrom 26 = .ok (.aload_n 1, 1) := dd_all DX0_copyFrom_0_ok 12 rfl
theorem dX0_copyFrom_27 : decode cX0_copyFrom 27 = .ok (.getfield 27, 3) := dd_all DX0_copyFrom_0_ok 13 rfl
theorem dX0_copyFrom_30 : decode cX0_copyFrom 30 = .ok (.invokevirtual 59, 3) := dd_all DX0_copyFrom_0_ok 14 rfl
theorem dX0_copyFrom_33 : decode cX0_copyFrom 33 = .ok (.aload_n 0, 1) := dd_all DX0_copyFrom_0_ok 15 rfl
theorem dX0_copyFrom_34 : decode cX0_copyFrom 34 = .ok (.getfield 30, 3) := dd_all DX0_copyFrom_0_ok 16 rfl
theorem dX0_copyFrom_37 : decode cX0_copyFrom 37 = .ok (.aload_n 1, 1) := dd_all DX0_copyFrom_0_ok 17 rfl
theorem dX0_copyFrom_38 : decode cX0_copyFrom 38 = .ok (.getfield 30, 3) := dd_all DX0_copyFrom_0_ok 18 rfl
theorem dX0_copyFrom_41 : decode cX0_copyFrom 41 = .ok (.invokevirtual 59, 3) := dd_all DX0_copyFrom_0_ok 19 rfl
theorem dX0_copyFrom_44 : decode cX0_copyFrom 44 = .ok (.aload_n 1, 1) := dd_all DX0_copyFrom_0_ok 20 rfl
theorem dX0_copyFrom_45 : decode cX0_copyFrom 45 = .ok (.getfield 33, 3) := dd_all DX0_copyFrom_0_ok 21 rfl
theorem dX0_copyFrom_48 : decode cX0_copyFrom 48 = .ok (.aload_n 0, 1) := dd_all DX0_copyFrom_0_ok 22 rfl
theorem dX0_copyFrom_49 : decode cX0_copyFrom 49 = .ok (.getfield 33, 3) := dd_all DX0_copyFrom_0_ok 23 rfl
theorem dX0_copyFrom_52 : decode cX0_copyFrom 52 = .ok (.iconst 3, 1) := dd_all DX0_copyFrom_0_ok 24 rfl
theorem dX0_copyFrom_53 : decode cX0_copyFrom 53 = .ok (.invokestatic 51, 3) := dd_all DX0_copyFrom_0_ok 25 rfl
theorem dX0_copyFrom_56 : decode cX0_copyFrom 56 = .ok (.aload_n 0, 1) := dd_all DX0_copyFrom_0_ok 26 rfl
theorem dX0_copyFrom_57 : decode cX0_copyFrom 57 = .ok (.getfield 44, 3) := dd_all DX0_copyFrom_0_ok 27 rfl
theorem dX0_copyFrom_60 : decode cX0_copyFrom 60 = .ok (.aload_n 1, 1) := dd_all DX0_copyFrom_0_ok 28 rfl
theorem dX0_copyFrom_61 : decode cX0_copyFrom 61 = .ok (.getfield 44, 3) := dd_all DX0_copyFrom_0_ok 29 rfl
theorem dX0_copyFrom_64 : decode cX0_copyFrom 64 = .ok (.invokevirtual 62, 3) := dd_all DX0_copyFrom_0_ok 30 rfl
theorem dX0_copyFrom_67 : decode cX0_copyFrom 67 = .ok (.aload_n 0, 1) := dd_all DX0_copyFrom_0_ok 31 rfl
theorem dX0_copyFrom_68 : decode cX0_copyFrom 68 = .ok (.aload_n 1, 1) := dd_all DX0_copyFrom_0_ok 32 rfl
theorem dX0_copyFrom_69 : decode cX0_copyFrom 69 = .ok (.getfield 65, 3) := dd_all DX0_copyFrom_0_ok 33 rfl
theorem dX0_copyFrom_72 : decode cX0_copyFrom 72 = .ok (.putfield 65, 3) := dd_all DX0_copyFrom_0_ok 34 rfl
theorem dX0_copyFrom_75 : decode cX0_copyFrom 75 = .ok (.aload_n 0, 1) := dd_all DX0_copyFrom_0_ok 35 rfl
theorem dX0_copyFrom_76 : decode cX0_copyFrom 76 = .ok (.aload_n 1, 1) := dd_all DX0_copyFrom_0_ok 36 rfl
theorem dX0_copyFrom_77 : decode cX0_copyFrom 77 = .ok (.getfield 69, 3) := dd_all DX0_copyFrom_0_ok 37 rfl
theorem dX0_copyFrom_80 : decode cX0_copyFrom 80 = .ok (.putfield 69, 3) := dd_all DX0_copyFrom_0_ok 38 rfl
theorem dX0_copyFrom_83 : decode cX0_copyFrom 83 = .ok (.aload_n 0, 1) := dd_all DX0_copyFrom_0_ok 39 rfl
def DX0_copyFrom_40 : List (Nat × Instr × Nat) := [(84, .aload_n 1, 1), (85, .getfield 72, 3), (88, .putfield 72, 3), (91, .aload_n 0, 1), (92, .aload_n 1, 1), (93, .getfield 75, 3), (96, .putfield 75, 3), (99, .return_, 1)]
theorem DX0_copyFrom_40_ok : ∀ q ∈ DX0_copyFrom_40, decode cX0_copyFrom q.1 = .ok (q.2.1, q.2.2) := by decide +kernel
theorem dX0_copyFrom_84 : decode cX0_copyFrom 84 = .ok (.aload_n 1, 1) := dd_all DX0_copyFrom_40_ok 0 rfl
theorem dX0_copyFrom_85 : decode cX0_copyFrom 85 = .ok (.getfield 72, 3) := dd_all DX0_copyFrom_40_ok 1 rfl
theorem dX0_copyFrom_88 : decode cX0_copyFrom 88 = .ok (.putfield 72, 3) := dd_all DX0_copyFrom_40_ok 2 rfl
theorem dX0_copyFrom_91 : decode cX0_copyFrom 91 = .ok (.aload_n 0, 1) := dd_all DX0_copyFrom_40_ok 3 rfl
theorem dX0_copyFrom_92 : decode cX0_copyFrom 92 = .ok (.aload_n 1, 1) := dd_all DX0_copyFrom_40_ok 4 rfl
theorem dX0_copyFrom_93 : decode cX0_copyFrom 93 = .ok (.getfield 75, 3) := dd_all DX0_copyFrom_40_ok 5 rfl
theorem dX0_copyFrom_96 : decode cX0_copyFrom 96 = .ok (.putfield 75, 3) := dd_all DX0_copyFrom_40_ok 6 rfl
theorem dX0_copyFrom_99 : decode cX0_copyFrom 99 = .ok (.return_, 1) := dd_all DX0_copyFrom_40_ok 7 rfl
def DX0_firstOf_0 : List (Nat × Instr × Nat) := [(0, .iconst 0, 1), (1, .istore 4, 2), (3, .iload 4, 2), (5, .aload_n 1, 1), (6, .getfield 78, 3), (9, .if_icmp .ge 34, 3), (12, .aload_n 1, 1), (13, .iload 4, 2), (15, .invokevirtual 81, 3), (18, .istore 5, 2), (20, .aload_n 0, 1), (21, .getfield 12, 3), (24, .iload 5, 2), (26, .iload_n 2, 1), (27, .iload_n 3, 1), (28, .invokevirtual 85, 3), (31, .ifCond .eq 6, 3), (34, .iload 5, 2), (36, .ireturn, 1), (37, .iinc 4 1, 3), (40, .goto (-37), 3), (43, .iconst (-1), 1), (44, .ireturn, 1)]
theorem DX0_firstOf_0_ok : ∀ q ∈ DX0_firstOf_0, decode cX0_firstOf q.1 = .ok (q.2.1, q.2.2) := by decide +kernel
theorem dX0_firstOf_0 : decode cX0_firstOf 0 = .ok (.iconst 0, 1) := dd_all DX0_firstOf_0_ok 0 rfl
theorem dX0_firstOf_1 : decode cX0_firstOf 1 = .ok (.istore 4, 2) := dd_all DX0_firstOf_0_ok 1 rfl
theorem dX0_firstOf_3 : decode cX0_firstOf 3 = .ok (.iload 4, 2) := dd_all DX0_firstOf_0_ok 2 rfl
theorem dX0_firstOf_5 : decode cX0_firstOf 5 = .ok (.aload_n 1, 1) := dd_all DX0_firstOf_0_ok 3 rfl
theorem dX0_firstOf_6 : decode cX0_firstOf 6 = .ok (.getfield 78, 3) := dd_all DX0_firstOf_0_ok 4 rfl
theorem dX0_firstOf_9 : decode cX0_firstOf 9 = .ok (.if_icmp .ge 34, 3) := dd_all DX0_firstOf_0_ok 5 rfl
theorem dX0_firstOf_12 : decode cX0_firstOf 12 = .ok (.aload_n 1, 1) := dd_all DX0_firstOf_0_ok 6 rfl
theorem dX0_firstOf_13 : decode cX0_firstOf 13 = .ok (.iload 4, 2) := dd_all DX0_firstOf_0_ok 7 rfl
theorem dX0_firstOf_15 : decode cX0_firstOf 15 = .ok (.invokevirtual 81, 3) := dd_all DX0_firstOf_0_ok 8 rfl
theorem dX0_firstOf_18 : decode cX0_firstOf 18 = .ok (.istore 5, 2) := dd_all DX0_firstOf_0_ok 9 rfl
theorem dX0_firstOf_20 : decode cX0_firstOf 20 = .ok (.aload_n 0, 1) := dd_all DX0_firstOf_0_ok 10 rfl
theorem dX0_firstOf_21 : decode cX0_firstOf 21 = .ok (.getfield 12, 3) := dd_all DX0_firstOf_0_ok 11 rfl
theorem dX0_firstOf_24 : decode cX0_firstOf 24 = .ok (.iload 5, 2) := dd_all DX0_firstOf_0_ok 12 rfl
theorem dX0_firstOf_26 : decode cX0_firstOf 26 = .ok (.iload_n 2, 1) := dd_all DX0_firstOf_0_ok 13 rfl
theorem dX0_firstOf_27 : decode cX0_firstOf 27 = .ok (.iload_n 3, 1) := dd_all DX0_firstOf_0_ok 14 rfl
theorem dX0_firstOf_28 : decode cX0_firstOf 28 = .ok (.invokevirtual 85, 3) := dd_all DX0_firstOf_0_ok 15 rfl
theorem dX0_firstOf_31 : decode cX0_firstOf 31 = .ok (.ifCond .eq 6, 3) := dd_all DX0_firstOf_0_ok 16 rfl
theorem dX0_firstOf_34 : decode cX0_firstOf 34 = .ok (.iload 5, 2) := dd_all DX0_firstOf_0_ok 17 rfl
theorem dX0_firstOf_36 : decode cX0_firstOf 36 = .ok (.ireturn, 1) := dd_all DX0_firstOf_0_ok 18 rfl
theorem dX0_firstOf_37 : decode cX0_firstOf 37 = .ok (.iinc 4 1, 3) := dd_all DX0_firstOf_0_ok 19 rfl
theorem dX0_firstOf_40 : decode cX0_firstOf 40 = .ok (.goto (-37), 3) := dd_all DX0_firstOf_0_ok 20 rfl
theorem dX0_firstOf_43 : decode cX0_firstOf 43 = .ok (.iconst (-1), 1) := dd_all DX0_firstOf_0_ok 21 rfl
theorem dX0_firstOf_44 : decode cX0_firstOf 44 = .ok (.ireturn, 1) := dd_all DX0_firstOf_0_ok 22 rfl
def DX0_voiceOf_0 : List (Nat × Instr × Nat) := [(0, .aload_n 0, 1), (1, .aload_n 0, 1), (2, .getfield 23, 3), (5, .iload_n 1, 1), (6, .iload_n 2, 1), (7, .invokevirtual 89, 3), (10, .ireturn, 1)]
theorem DX0_voiceOf_0_ok : ∀ q ∈ DX0_voiceOf_0, decode cX0_voiceOf q.1 = .ok (q.2.1, q.2.2) := by decide +kernel
theorem dX0_voiceOf_0 : decode cX0_voiceOf 0 = .ok (.aload_n 0, 1) := dd_all DX0_voiceOf_0_ok 0 rfl
theorem dX0_voiceOf_1 : decode cX0_voiceOf 1 = .ok (.aload_n 0, 1) := dd_all DX0_voiceOf_0_ok 1 rfl
theorem dX0_voiceOf_2 : decode cX0_voiceOf 2 = .ok (.getfield 23, 3) := dd_all DX0_voiceOf_0_ok 2 rfl
theorem dX0_voiceOf_5 : decode cX0_voiceOf 5 = .ok (.iload_n 1, 1) := dd_all DX0_voiceOf_0_ok 3 rfl
theorem dX0_voiceOf_6 : decode cX0_voiceOf 6 = .ok (.iload_n 2, 1) := dd_all DX0_voiceOf_0_ok 4 rfl
theorem dX0_voiceOf_7 : decode cX0_voiceOf 7 = .ok (.invokevirtual 89, 3) := dd_all DX0_voiceOf_0_ok 5 rfl
theorem dX0_voiceOf_10 : decode cX0_voiceOf 10 = .ok (.ireturn, 1) := dd_all DX0_voiceOf_0_ok 6 rfl
def DX0_waiterOf_0 : List (Nat × Instr × Nat) := [(0, .aload_n 0, 1), (1, .aload_n 0, 1), (2, .getfield 30, 3), (5, .iload_n 1, 1), (6, .iload_n 2, 1), (7, .invokevirtual 89, 3), (10, .ireturn, 1)]
theorem DX0_waiterOf_0_ok : ∀ q ∈ DX0_waiterOf_0, decode cX0_waiterOf q.1 = .ok (q.2.1, q.2.2) := by decide +kernel
theorem dX0_waiterOf_0 : decode cX0_waiterOf 0 = .ok (.aload_n 0, 1) := dd_all DX0_waiterOf_0_ok 0 rfl
theorem dX0_waiterOf_1 : decode cX0_waiterOf 1 = .ok (.aload_n 0, 1) := dd_all DX0_waiterOf_0_ok 1 rfl
theorem dX0_waiterOf_2 : decode cX0_waiterOf 2 = .ok (.getfield 30, 3) := dd_all DX0_waiterOf_0_ok 2 rfl
theorem dX0_waiterOf_5 : decode cX0_waiterOf 5 = .ok (.iload_n 1, 1) := dd_all DX0_waiterOf_0_ok 3 rfl
theorem dX0_waiterOf_6 : decode cX0_waiterOf 6 = .ok (.iload_n 2, 1) := dd_all DX0_waiterOf_0_ok 4 rfl
theorem dX0_waiterOf_7 : decode cX0_waiterOf 7 = .ok (.invokevirtual 89, 3) := dd_all DX0_waiterOf_0_ok 5 rfl
theorem dX0_waiterOf_10 : decode cX0_waiterOf 10 = .ok (.ireturn, 1) := dd_all DX0_waiterOf_0_ok 6 rfl
def DX0_singerToLetGo_0 : List (Nat × Instr × Nat) := [(0, .aload_n 0, 1), (1, .iload_n 1, 1), (2, .iload_n 2, 1), (3, .invokevirtual 93, 3), (6, .istore_n 3, 1), (7, .iload_n 3, 1), (8, .iconst (-1), 1), (9, .if_icmp .eq 33, 3), (12, .aload_n 0, 1), (13, .getfield 12, 3), (16, .getfield 97, 3), (19, .iload_n 3, 1), (20, .invokestatic 100, 3), (23, .iconst 4, 1), (24, .if_icmp .eq 18, 3), (27, .aload_n 0, 1), (28, .getfield 12, 3), (31, .getfield 104, 3), (34, .iload_n 3, 1), (35, .invokestatic 100, 3), (38, .iconst 1, 1), (39, .if_icmp .ne 5, 3), (42, .iconst (-1), 1), (43, .ireturn, 1), (44, .iload_n 3, 1), (45, .ireturn, 1)]
theorem DX0_singerToLetGo_0_ok : ∀ q ∈ DX0_singerToLetGo_0, decode cX0_singerToLetGo q.1 = .ok (q.2.1, q.2.2) := by decide +kernel
theorem dX0_singerToLetGo_0 : decode cX0_singerToLetGo 0 = .ok (.aload_n 0, 1) := dd_all DX0_singerToLetGo_0_ok 0 rfl
theorem dX0_singerToLetGo_1 : decode cX0_singerToLetGo 1 = .ok (.iload_n 1, 1) := dd_all DX0_singerToLetGo_0_ok 1 rfl
theorem dX0_singerToLetGo_2 : decode cX0_singerToLetGo 2 = .ok (.iload_n 2, 1) := dd_all DX0_singerToLetGo_0_ok 2 rfl
theorem dX0_singerToLetGo_3 : decode cX0_singerToLetGo 3 = .ok (.invokevirtual 93, 3) := dd_all DX0_singerToLetGo_0_ok 3 rfl
theorem dX0_singerToLetGo_6 : decode cX0_singerToLetGo 6 = .ok (.istore_n 3, 1) := dd_all DX0_singerToLetGo_0_ok 4 rfl
theorem dX0_singerToLetGo_7 : decode cX0_singerToLetGo 7 = .ok (.iload_n 3, 1) := dd_all DX0_singerToLetGo_0_ok 5 rfl
theorem dX0_singerToLetGo_8 : decode cX0_singerToLetGo 8 = .ok (.iconst (-1), 1) := dd_all DX0_singerToLetGo_0_ok 6 rfl
theorem dX0_singerToLetGo_9 : decode cX0_singerToLetGo 9 = .ok (.if_icmp .eq 33, 3) := dd_all DX0_singerToLetGo_0_ok 7 rfl
theorem dX0_singerToLetGo_12 : decode cX0_singerToLetGo 12 = .ok (.aload_n 0, 1) := dd_all DX0_singerToLetGo_0_ok 8 rfl
theorem dX0_singerToLetGo_13 : decode cX0_singerToLetGo 13 = .ok (.getfield 12, 3) := dd_all DX0_singerToLetGo_0_ok 9 rfl
theorem dX0_singerToLetGo_16 : decode cX0_singerToLetGo 16 = .ok (.getfield 97, 3) := dd_all DX0_singerToLetGo_0_ok 10 rfl
theorem dX0_singerToLetGo_19 : decode cX0_singerToLetGo 19 = .ok (.iload_n 3, 1) := dd_all DX0_singerToLetGo_0_ok 11 rfl
theorem dX0_singerToLetGo_20 : decode cX0_singerToLetGo 20 = .ok (.invokestatic 100, 3) := dd_all DX0_singerToLetGo_0_ok 12 rfl
theorem dX0_singerToLetGo_23 : decode cX0_singerToLetGo 23 = .ok (.iconst 4, 1) := dd_all DX0_singerToLetGo_0_ok 13 rfl
theorem dX0_singerToLetGo_24 : decode cX0_singerToLetGo 24 = .ok (.if_icmp .eq 18, 3) := dd_all DX0_singerToLetGo_0_ok 14 rfl
theorem dX0_singerToLetGo_27 : decode cX0_singerToLetGo 27 = .ok (.aload_n 0, 1) := dd_all DX0_singerToLetGo_0_ok 15 rfl
theorem dX0_singerToLetGo_28 : decode cX0_singerToLetGo 28 = .ok (.getfield 12, 3) := dd_all DX0_singerToLetGo_0_ok 16 rfl
theorem dX0_singerToLetGo_31 : decode cX0_singerToLetGo 31 = .ok (.getfield 104, 3) := dd_all DX0_singerToLetGo_0_ok 17 rfl
theorem dX0_singerToLetGo_34 : decode cX0_singerToLetGo 34 = .ok (.iload_n 3, 1) := dd_all DX0_singerToLetGo_0_ok 18 rfl
theorem dX0_singerToLetGo_35 : decode cX0_singerToLetGo 35 = .ok (.invokestatic 100, 3) := dd_all DX0_singerToLetGo_0_ok 19 rfl
theorem dX0_singerToLetGo_38 : decode cX0_singerToLetGo 38 = .ok (.iconst 1, 1) := dd_all DX0_singerToLetGo_0_ok 20 rfl
theorem dX0_singerToLetGo_39 : decode cX0_singerToLetGo 39 = .ok (.if_icmp .ne 5, 3) := dd_all DX0_singerToLetGo_0_ok 21 rfl
theorem dX0_singerToLetGo_42 : decode cX0_singerToLetGo 42 = .ok (.iconst (-1), 1) := dd_all DX0_singerToLetGo_0_ok 22 rfl
theorem dX0_singerToLetGo_43 : decode cX0_singerToLetGo 43 = .ok (.ireturn, 1) := dd_all DX0_singerToLetGo_0_ok 23 rfl
theorem dX0_singerToLetGo_44 : decode cX0_singerToLetGo 44 = .ok (.iload_n 3, 1) := dd_all DX0_singerToLetGo_0_ok 24 rfl
theorem dX0_singerToLetGo_45 : decode cX0_singerToLetGo 45 = .ok (.ireturn, 1) := dd_all DX0_singerToLetGo_0_ok 25 rfl
def DX0_freePlaces_0 : List (Nat × Instr × Nat) := [(0, .iconst 0, 1), (1, .aload_n 0, 1), (2, .getfield 33, 3), (5, .iconst 0, 1), (6, .invokestatic 100, 3), (9, .aload_n 0, 1), (10, .getfield 23, 3), (13, .getfield 78, 3), (16, .isub, 1), (17, .invokestatic 107, 3), (20, .ireturn, 1)]
theorem DX0_freePlaces_0_ok : ∀ q ∈ DX0_freePlaces_0, decode cX0_freePlaces q.1 = .ok (q.2.1, q.2.2) := by decide +kernel
theorem dX0_freePlaces_0 : decode cX0_freePlaces 0 = .ok (.iconst 0, 1) := dd_all DX0_freePlaces_0_ok 0 rfl
theorem dX0_freePlaces_1 : decode cX0_freePlaces 1 = .ok (.aload_n 0, 1) := dd_all DX0_freePlaces_0_ok 1 rfl
theorem dX0_freePlaces_2 : decode cX0_freePlaces 2 = .ok (.getfield 33, 3) := dd_all DX0_freePlaces_0_ok 2 rfl
theorem dX0_freePlaces_5 : decode cX0_freePlaces 5 = .ok (.iconst 0, 1) := dd_all DX0_freePlaces_0_ok 3 rfl
theorem dX0_freePlaces_6 : decode cX0_freePlaces 6 = .ok (.invokestatic 100, 3) := dd_all DX0_freePlaces_0_ok 4 rfl
theorem dX0_freePlaces_9 : decode cX0_freePlaces 9 = .ok (.aload_n 0, 1) := dd_all DX0_freePlaces_0_ok 5 rfl
theorem dX0_freePlaces_10 : decode cX0_freePlaces 10 = .ok (.getfield 23, 3) := dd_all DX0_freePlaces_0_ok 6 rfl
theorem dX0_freePlaces_13 : decode cX0_freePlaces 13 = .ok (.getfield 78, 3) := dd_all DX0_freePlaces_0_ok 7 rfl
theorem dX0_freePlaces_16 : decode cX0_freePlaces 16 = .ok (.isub, 1) := dd_all DX0_freePlaces_0_ok 8 rfl
theorem dX0_freePlaces_17 : decode cX0_freePlaces 17 = .ok (.invokestatic 107, 3) := dd_all DX0_freePlaces_0_ok 9 rfl
theorem dX0_freePlaces_20 : decode cX0_freePlaces 20 = .ok (.ireturn, 1) := dd_all DX0_freePlaces_0_ok 10 rfl
def DX0_toSendHome_0 : List (Nat × Instr × Nat) := [(0, .aload_n 0, 1), (1, .getfield 33, 3), (4, .iconst 1, 1), (5, .invokestatic 100, 3), (8, .istore_n 1, 1), (9, .iload_n 1, 1), (10, .ifCond .eq 10, 3), (13, .iload_n 1, 1), (14, .iconst 1, 1), (15, .if_icmp .eq 5, 3), (18, .iconst (-1), 1), (19, .ireturn, 1), (20, .aload_n 0, 1), (21, .iload_n 1, 1), (22, .iconst 1, 1), (23, .invokevirtual 112, 3), (26, .istore_n 2, 1), (27, .iload_n 2, 1), (28, .iconst (-1), 1), (29, .if_icmp .ne 12, 3), (32, .aload_n 0, 1), (33, .iload_n 1, 1), (34, .iconst 0, 1), (35, .invokevirtual 112, 3), (38, .goto 4, 3), (41, .iload_n 2, 1), (42, .ireturn, 1)]
theorem DX0_toSendHome_0_ok : ∀ q ∈ DX0_toSendHome_0, decode cX0_toSendHome q.1 = .ok (q.2.1, q.2.2) := by decide +kernel
theorem dX0_toSendHome_0 : decode cX0_toSendHome 0 = .ok (.aload_n 0, 1) := dd_all DX0_toSendHome_0_ok 0 rfl
theorem dX0_toSendHome_1 : decode cX0_toSendHome 1 = .ok (.getfield 33, 3) := dd_all DX0_toSendHome_0_ok 1 rfl
theorem dX0_toSendHome_4 : decode cX0_toSendHome 4 = .ok (.iconst 1, 1) := dd_all DX0_toSendHome_0_ok 2 rfl
theorem dX0_toSendHome_5 : decode cX0_toSendHome 5 = .ok (.invokestatic 100, 3) := dd_all DX0_toSendHome_0_ok 3 rfl
theorem dX0_toSendHome_8 : decode cX0_toSendHome 8 = .ok (.istore_n 1, 1) := dd_all DX0_toSendHome_0_ok 4 rfl
theorem dX0_toSendHome_9 : decode cX0_toSendHome 9 = .ok (.iload_n 1, 1) := dd_all DX0_toSendHome_0_ok 5 rfl
theorem dX0_toSendHome_10 : decode cX0_toSendHome 10 = .ok (.ifCond .eq 10, 3) := dd_all DX0_toSendHome_0_ok 6 rfl
theorem dX0_toSendHome_13 : decode cX0_toSendHome 13 = .ok (.iload_n 1, 1) := dd_all DX0_toSendHome_0_ok 7 rfl
theorem dX0_toSendHome_14 : decode cX0_toSendHome 14 = .ok (.iconst 1, 1) := dd_all DX0_toSendHome_0_ok 8 rfl
theorem dX0_toSendHome_15 : decode cX0_toSendHome 15 = .ok (.if_icmp .eq 5, 3) := dd_all DX0_toSendHome_0_ok 9 rfl
theorem dX0_toSendHome_18 : decode cX0_toSendHome 18 = .ok (.iconst (-1), 1) := dd_all DX0_toSendHome_0_ok 10 rfl
theorem dX0_toSendHome_19 : decode cX0_toSendHome 19 = .ok (.ireturn, 1) := dd_all DX0_toSendHome_0_ok 11 rfl
theorem dX0_toSendHome_20 : decode cX0_toSendHome 20 = .ok (.aload_n 0, 1) := dd_all DX0_toSendHome_0_ok 12 rfl
theorem dX0_toSendHome_21 : decode cX0_toSendHome 21 = .ok (.iload_n 1, 1) := dd_all DX0_toSendHome_0_ok 13 rfl
theorem dX0_toSendHome_22 : decode cX0_toSendHome 22 = .ok (.iconst 1, 1) := dd_all DX0_toSendHome_0_ok 14 rfl
theorem dX0_toSendHome_23 : decode cX0_toSendHome 23 = .ok (.invokevirtual 112, 3) := dd_all DX0_toSendHome_0_ok 15 rfl
theorem dX0_toSendHome_26 : decode cX0_toSendHome 26 = .ok (.istore_n 2, 1) := dd_all DX0_toSendHome_0_ok 16 rfl
theorem dX0_toSendHome_27 : decode cX0_toSendHome 27 = .ok (.iload_n 2, 1) := dd_all DX0_toSendHome_0_ok 17 rfl
theorem dX0_toSendHome_28 : decode cX0_toSendHome 28 = .ok (.iconst (-1), 1) := dd_all DX0_toSendHome_0_ok 18 rfl
theorem dX0_toSendHome_29 : decode cX0_toSendHome 29 = .ok (.if_icmp .ne 12, 3) := dd_all DX0_toSendHome_0_ok 19 rfl
theorem dX0_toSendHome_32 : decode cX0_toSendHome 32 = .ok (.aload_n 0, 1) := dd_all DX0_toSendHome_0_ok 20 rfl
theorem dX0_toSendHome_33 : decode cX0_toSendHome 33 = .ok (.iload_n 1, 1) := dd_all DX0_toSendHome_0_ok 21 rfl
theorem dX0_toSendHome_34 : decode cX0_toSendHome 34 = .ok (.iconst 0, 1) := dd_all DX0_toSendHome_0_ok 22 rfl
theorem dX0_toSendHome_35 : decode cX0_toSendHome 35 = .ok (.invokevirtual 112, 3) := dd_all DX0_toSendHome_0_ok 23 rfl
theorem dX0_toSendHome_38 : decode cX0_toSendHome 38 = .ok (.goto 4, 3) := dd_all DX0_toSendHome_0_ok 24 rfl
theorem dX0_toSendHome_41 : decode cX0_toSendHome 41 = .ok (.iload_n 2, 1) := dd_all DX0_toSendHome_0_ok 25 rfl
theorem dX0_toSendHome_42 : decode cX0_toSendHome 42 = .ok (.ireturn, 1) := dd_all DX0_toSendHome_0_ok 26 rfl
def DX0_firstToGo_0 : List (Nat × Instr × Nat) := [(0, .iconst (-1), 1), (1, .istore_n 3, 1), (2, .iconst 0, 1), (3, .istore 4, 2), (5, .iload 4, 2), (7, .aload_n 0, 1), (8, .getfield 23, 3), (11, .getfield 78, 3), (14, .if_icmp .ge 93, 3), (17, .aload_n 0, 1), (18, .getfield 23, 3), (21, .iload 4, 2), (23, .invokevirtual 81, 3), (26, .istore 5, 2), (28, .iload_n 2, 1), (29, .ifCond .eq 22, 3), (32, .aload_n 0, 1), (33, .getfield 12, 3), (36, .getfield 97, 3), (39, .iload 5, 2), (41, .invokestatic 100, 3), (44, .iconst 4, 1), (45, .if_icmp .eq 6, 3), (48, .goto 53, 3), (51, .iload_n 1, 1), (52, .ifCond .ne 33, 3), (55, .aload_n 0, 1), (56, .getfield 12, 3), (59, .getfield 116, 3), (62, .iload 5, 2), (64, .invokestatic 100, 3), (67, .aload_n 0, 1), (68, .getfield 12, 3), (71, .getfield 116, 3), (74, .iload_n 3, 1), (75, .invokestatic 100, 3), (78, .if_icmp .ge 7, 3), (81, .iconst 1, 1), (82, .goto 4, 3), (85, .iconst 0, 1)]
theorem DX0_firstToGo_0_ok : ∀ q ∈ DX0_firstToGo_0, decode cX0_firstToGo q.1 = .ok (q.2.1, q.2.2) := by decide +kernel
theorem dX0_firstToGo_0 : decode cX0_firstToGo 0 = .ok (.iconst (-1), 1) := dd_all DX0_firstToGo_0_ok 0 rfl
theorem dX0_firstToGo_1 : decode cX0_firstToGo 1 = .ok (.istore_n 3, 1) := dd_all DX0_firstToGo_0_ok 1 rfl
theorem dX0_firstToGo_2 : decode cX0_firstToGo 2 = .ok (.iconst 0, 1) := dd_all DX0_firstToGo_0_ok 2 rfl
theorem dX0_firstToGo_3 : decode cX0_firstToGo 3 = .ok (.istore 4, 2) := dd_all DX0_firstToGo_0_ok 3 rfl
theorem dX0_firstToGo_5 : decode cX0_firstToGo 5 = .ok (.iload 4, 2) := dd_all DX0_firstToGo_0_ok 4 rfl
theorem dX0_firstToGo_7 : decode cX0_firstToGo 7 = .ok (.aload_n 0, 1) := dd_all DX0_firstToGo_0_ok 5 rfl
theorem dX0_firstToGo_8 : decode cX0_firstToGo 8 = .ok (.getfield 23, 3) := dd_all DX0_firstToGo_0_ok 6 rfl
theorem dX0_firstToGo_11 : decode cX0_firstToGo 11 = .ok (.getfield 78, 3) := dd_all DX0_firstToGo_0_ok 7 rfl
theorem dX0_firstToGo_14 : decode cX0_firstToGo 14 = .ok (.if_icmp .ge 93, 3) := dd_all DX0_firstToGo_0_ok 8 rfl
theorem dX0_firstToGo_17 : decode cX0_firstToGo 17 = .ok (.aload_n 0, 1) := dd_all DX0_firstToGo_0_ok 9 rfl
theorem dX0_firstToGo_18 : decode cX0_firstToGo 18 = .ok (.getfield 23, 3) := dd_all DX0_firstToGo_0_ok 10 rfl
theorem dX0_firstToGo_21 : decode cX0_firstToGo 21 = .ok (.iload 4, 2) := dd_all DX0_firstToGo_0_ok 11 rfl
theorem dX0_firstToGo_23 : decode cX0_firstToGo 23 = .ok (.invokevirtual 81, 3) := dd_all DX0_firstToGo_0_ok 12 rfl
theorem dX0_firstToGo_26 : decode cX0_firstToGo 26 = .ok (.istore 5, 2) := dd_all DX0_firstToGo_0_ok 13 rfl
theorem dX0_firstToGo_28 : decode cX0_firstToGo 28 = .ok (.iload_n 2, 1) := dd_all DX0_firstToGo_0_ok 14 rfl
theorem dX0_firstToGo_29 : decode cX0_firstToGo 29 = .ok (.ifCond .eq 22, 3) := dd_all DX0_firstToGo_0_ok 15 rfl
theorem dX0_firstToGo_32 : decode cX0_firstToGo 32 = .ok (.aload_n 0, 1) := dd_all DX0_firstToGo_0_ok 16 rfl
theorem dX0_firstToGo_33 : decode cX0_firstToGo 33 = .ok (.getfield 12, 3) := dd_all DX0_firstToGo_0_ok 17 rfl
theorem dX0_firstToGo_36 : decode cX0_firstToGo 36 = .ok (.getfield 97, 3) := dd_all DX0_firstToGo_0_ok 18 rfl
theorem dX0_firstToGo_39 : decode cX0_firstToGo 39 = .ok (.iload 5, 2) := dd_all DX0_firstToGo_0_ok 19 rfl
theorem dX0_firstToGo_41 : decode cX0_firstToGo 41 = .ok (.invokestatic 100, 3) := dd_all DX0_firstToGo_0_ok 20 rfl
theorem dX0_firstToGo_44 : decode cX0_firstToGo 44 = .ok (.iconst 4, 1) := dd_all DX0_firstToGo_0_ok 21 rfl
theorem dX0_firstToGo_45 : decode cX0_firstToGo 45 = .ok (.if_icmp .eq 6, 3) := dd_all DX0_firstToGo_0_ok 22 rfl
theorem dX0_firstToGo_48 : decode cX0_firstToGo 48 = .ok (.goto 53, 3) := dd_all DX0_firstToGo_0_ok 23 rfl
theorem dX0_firstToGo_51 : decode cX0_firstToGo 51 = .ok (.iload_n 1, 1) := dd_all DX0_firstToGo_0_ok 24 rfl
theorem dX0_firstToGo_52 : decode cX0_firstToGo 52 = .ok (.ifCond .ne 33, 3) := dd_all DX0_firstToGo_0_ok 25 rfl
theorem dX0_firstToGo_55 : decode cX0_firstToGo 55 = .ok (.aload_n 0, 1) := dd_all DX0_firstToGo_0_ok 26 rfl
theorem dX0_firstToGo_56 : decode cX0_firstToGo 56 = .ok (.getfield 12, 3) := dd_all DX0_firstToGo_0_ok 27 rfl
theorem dX0_firstToGo_59 : decode cX0_firstToGo 59 = .ok (.getfield 116, 3) := dd_all DX0_firstToGo_0_ok 28 rfl
theorem dX0_firstToGo_62 : decode cX0_firstToGo 62 = .ok (.iload 5, 2) := dd_all DX0_firstToGo_0_ok 29 rfl
theorem dX0_firstToGo_64 : decode cX0_firstToGo 64 = .ok (.invokestatic 100, 3) := dd_all DX0_firstToGo_0_ok 30 rfl
theorem dX0_firstToGo_67 : decode cX0_firstToGo 67 = .ok (.aload_n 0, 1) := dd_all DX0_firstToGo_0_ok 31 rfl
theorem dX0_firstToGo_68 : decode cX0_firstToGo 68 = .ok (.getfield 12, 3) := dd_all DX0_firstToGo_0_ok 32 rfl
theorem dX0_firstToGo_71 : decode cX0_firstToGo 71 = .ok (.getfield 116, 3) := dd_all DX0_firstToGo_0_ok 33 rfl
theorem dX0_firstToGo_74 : decode cX0_firstToGo 74 = .ok (.iload_n 3, 1) := dd_all DX0_firstToGo_0_ok 34 rfl
theorem dX0_firstToGo_75 : decode cX0_firstToGo 75 = .ok (.invokestatic 100, 3) := dd_all DX0_firstToGo_0_ok 35 rfl
theorem dX0_firstToGo_78 : decode cX0_firstToGo 78 = .ok (.if_icmp .ge 7, 3) := dd_all DX0_firstToGo_0_ok 36 rfl
theorem dX0_firstToGo_81 : decode cX0_firstToGo 81 = .ok (.iconst 1, 1) := dd_all DX0_firstToGo_0_ok 37 rfl
theorem dX0_firstToGo_82 : decode cX0_firstToGo 82 = .ok (.goto 4, 3) := dd_all DX0_firstToGo_0_ok 38 rfl
theorem dX0_firstToGo_85 : decode cX0_firstToGo 85 = .ok (.iconst 0, 1) := dd_all DX0_firstToGo_0_ok 39 rfl
def DX0_firstToGo_40 : List (Nat × Instr × Nat) := [(86, .istore 6, 2), (88, .iload_n 3, 1), (89, .iconst (-1), 1), (90, .if_icmp .eq 8, 3), (93, .iload 6, 2), (95, .ifCond .eq 6, 3), (98, .iload 5, 2), (100, .istore_n 3, 1), (101, .iinc 4 1, 3), (104, .goto (-99), 3), (107, .iload_n 3, 1), (108, .ireturn, 1)]
theorem DX0_firstToGo_40_ok : ∀ q ∈ DX0_firstToGo_40, decode cX0_firstToGo q.1 = .ok (q.2.1, q.2.2) := by decide +kernel
theorem dX0_firstToGo_86 : decode cX0_firstToGo 86 = .ok (.istore 6, 2) := dd_all DX0_firstToGo_40_ok 0 rfl
theorem dX0_firstToGo_88 : decode cX0_firstToGo 88 = .ok (.iload_n 3, 1) := dd_all DX0_firstToGo_40_ok 1 rfl
theorem dX0_firstToGo_89 : decode cX0_firstToGo 89 = .ok (.iconst (-1), 1) := dd_all DX0_firstToGo_40_ok 2 rfl
theorem dX0_firstToGo_90 : decode cX0_firstToGo 90 = .ok (.if_icmp .eq 8, 3) := dd_all DX0_firstToGo_40_ok 3 rfl
theorem dX0_firstToGo_93 : decode cX0_firstToGo 93 = .ok (.iload 6, 2) := dd_all DX0_firstToGo_40_ok 4 rfl
theorem dX0_firstToGo_95 : decode cX0_firstToGo 95 = .ok (.ifCond .eq 6, 3) := dd_all DX0_firstToGo_40_ok 5 rfl
theorem dX0_firstToGo_98 : decode cX0_firstToGo 98 = .ok (.iload 5, 2) := dd_all DX0_firstToGo_40_ok 6 rfl
theorem dX0_firstToGo_100 : decode cX0_firstToGo 100 = .ok (.istore_n 3, 1) := dd_all DX0_firstToGo_40_ok 7 rfl
theorem dX0_firstToGo_101 : decode cX0_firstToGo 101 = .ok (.iinc 4 1, 3) := dd_all DX0_firstToGo_40_ok 8 rfl
theorem dX0_firstToGo_104 : decode cX0_firstToGo 104 = .ok (.goto (-99), 3) := dd_all DX0_firstToGo_40_ok 9 rfl
theorem dX0_firstToGo_107 : decode cX0_firstToGo 107 = .ok (.iload_n 3, 1) := dd_all DX0_firstToGo_40_ok 10 rfl
theorem dX0_firstToGo_108 : decode cX0_firstToGo 108 = .ok (.ireturn, 1) := dd_all DX0_firstToGo_40_ok 11 rfl
def DX0_newNoteMustWait_0 : List (Nat × Instr × Nat) := [(0, .aload_n 0, 1), (1, .invokevirtual 119, 3), (4, .ifCond .ne 26, 3), (7, .aload_n 0, 1), (8, .getfield 27, 3), (11, .getfield 78, 3), (14, .iconst 4, 1), (15, .if_icmp .ge 11, 3), (18, .aload_n 0, 1), (19, .invokevirtual 123, 3), (22, .iconst (-1), 1), (23, .if_icmp .ne 7, 3), (26, .iconst 1, 1), (27, .goto 4, 3), (30, .iconst 0, 1), (31, .ireturn, 1)]
theorem DX0_newNoteMustWait_0_ok : ∀ q ∈ DX0_newNoteMustWait_0, decode cX0_newNoteMustWait q.1 = .ok (q.2.1, q.2.2) := by decide +kernel
theorem dX0_newNoteMustWait_0 : decode cX0_newNoteMustWait 0 = .ok (.aload_n 0, 1) := dd_all DX0_newNoteMustWait_0_ok 0 rfl
theorem dX0_newNoteMustWait_1 : decode cX0_newNoteMustWait 1 = .ok (.invokevirtual 119, 3) := dd_all DX0_newNoteMustWait_0_ok 1 rfl
theorem dX0_newNoteMustWait_4 : decode cX0_newNoteMustWait 4 = .ok (.ifCond .ne 26, 3) := dd_all DX0_newNoteMustWait_0_ok 2 rfl
theorem dX0_newNoteMustWait_7 : decode cX0_newNoteMustWait 7 = .ok (.aload_n 0, 1) := dd_all DX0_newNoteMustWait_0_ok 3 rfl
theorem dX0_newNoteMustWait_8 : decode cX0_newNoteMustWait 8 = .ok (.getfield 27, 3) := dd_all DX0_newNoteMustWait_0_ok 4 rfl
theorem dX0_newNoteMustWait_11 : decode cX0_newNoteMustWait 11 = .ok (.getfield 78, 3) := dd_all DX0_newNoteMustWait_0_ok 5 rfl
theorem dX0_newNoteMustWait_14 : decode cX0_newNoteMustWait 14 = .ok (.iconst 4, 1) := dd_all DX0_newNoteMustWait_0_ok 6 rfl
theorem dX0_newNoteMustWait_15 : decode cX0_newNoteMustWait 15 = .ok (.if_icmp .ge 11, 3) := dd_all DX0_newNoteMustWait_0_ok 7 rfl
theorem dX0_newNoteMustWait_18 : decode cX0_newNoteMustWait 18 = .ok (.aload_n 0, 1) := dd_all DX0_newNoteMustWait_0_ok 8 rfl
theorem dX0_newNoteMustWait_19 : decode cX0_newNoteMustWait 19 = .ok (.invokevirtual 123, 3) := dd_all DX0_newNoteMustWait_0_ok 9 rfl
theorem dX0_newNoteMustWait_22 : decode cX0_newNoteMustWait 22 = .ok (.iconst (-1), 1) := dd_all DX0_newNoteMustWait_0_ok 10 rfl
theorem dX0_newNoteMustWait_23 : decode cX0_newNoteMustWait 23 = .ok (.if_icmp .ne 7, 3) := dd_all DX0_newNoteMustWait_0_ok 11 rfl
theorem dX0_newNoteMustWait_26 : decode cX0_newNoteMustWait 26 = .ok (.iconst 1, 1) := dd_all DX0_newNoteMustWait_0_ok 12 rfl
theorem dX0_newNoteMustWait_27 : decode cX0_newNoteMustWait 27 = .ok (.goto 4, 3) := dd_all DX0_newNoteMustWait_0_ok 13 rfl
theorem dX0_newNoteMustWait_30 : decode cX0_newNoteMustWait 30 = .ok (.iconst 0, 1) := dd_all DX0_newNoteMustWait_0_ok 14 rfl
theorem dX0_newNoteMustWait_31 : decode cX0_newNoteMustWait 31 = .ok (.ireturn, 1) := dd_all DX0_newNoteMustWait_0_ok 15 rfl
def DX0_takesNewNote_0 : List (Nat × Instr × Nat) := [(0, .aload_n 0, 1), (1, .getfield 12, 3), (4, .getfield 126, 3), (7, .sipush 200, 3), (10, .if_icmp .ge 26, 3), (13, .aload_n 0, 1), (14, .invokevirtual 127, 3), (17, .ifCond .eq 15, 3), (20, .aload_n 0, 1), (21, .getfield 30, 3), (24, .getfield 78, 3), (27, .bipush 6, 2), (29, .if_icmp .ge 7, 3), (32, .iconst 1, 1), (33, .goto 4, 3), (36, .iconst 0, 1), (37, .ireturn, 1)]
theorem DX0_takesNewNote_0_ok : ∀ q ∈ DX0_takesNewNote_0, decode cX0_takesNewNote q.1 = .ok (q.2.1, q.2.2) := by decide +kernel
theorem dX0_takesNewNote_0 : decode cX0_takesNewNote 0 = .ok (.aload_n 0, 1) := dd_all DX0_takesNewNote_0_ok 0 rfl
theorem dX0_takesNewNote_1 : decode cX0_takesNewNote 1 = .ok (.getfield 12, 3) := dd_all DX0_takesNewNote_0_ok 1 rfl
theorem dX0_takesNewNote_4 : decode cX0_takesNewNote 4 = .ok (.getfield 126, 3) := dd_all DX0_takesNewNote_0_ok 2 rfl
theorem dX0_takesNewNote_7 : decode cX0_takesNewNote 7 = .ok (.sipush 200, 3) := dd_all DX0_takesNewNote_0_ok 3 rfl
theorem dX0_takesNewNote_10 : decode cX0_takesNewNote 10 = .ok (.if_icmp .ge 26, 3) := dd_all DX0_takesNewNote_0_ok 4 rfl
theorem dX0_takesNewNote_13 : decode cX0_takesNewNote 13 = .ok (.aload_n 0, 1) := dd_all DX0_takesNewNote_0_ok 5 rfl
theorem dX0_takesNewNote_14 : decode cX0_takesNewNote 14 = .ok (.invokevirtual 127, 3) := dd_all DX0_takesNewNote_0_ok 6 rfl
theorem dX0_takesNewNote_17 : decode cX0_takesNewNote 17 = .ok (.ifCond .eq 15, 3) := dd_all DX0_takesNewNote_0_ok 7 rfl
theorem dX0_takesNewNote_20 : decode cX0_takesNewNote 20 = .ok (.aload_n 0, 1) := dd_all DX0_takesNewNote_0_ok 8 rfl
theorem dX0_takesNewNote_21 : decode cX0_takesNewNote 21 = .ok (.getfield 30, 3) := dd_all DX0_takesNewNote_0_ok 9 rfl
theorem dX0_takesNewNote_24 : decode cX0_takesNewNote 24 = .ok (.getfield 78, 3) := dd_all DX0_takesNewNote_0_ok 10 rfl
theorem dX0_takesNewNote_27 : decode cX0_takesNewNote 27 = .ok (.bipush 6, 2) := dd_all DX0_takesNewNote_0_ok 11 rfl
theorem dX0_takesNewNote_29 : decode cX0_takesNewNote 29 = .ok (.if_icmp .ge 7, 3) := dd_all DX0_takesNewNote_0_ok 12 rfl
theorem dX0_takesNewNote_32 : decode cX0_takesNewNote 32 = .ok (.iconst 1, 1) := dd_all DX0_takesNewNote_0_ok 13 rfl
theorem dX0_takesNewNote_33 : decode cX0_takesNewNote 33 = .ok (.goto 4, 3) := dd_all DX0_takesNewNote_0_ok 14 rfl
theorem dX0_takesNewNote_36 : decode cX0_takesNewNote 36 = .ok (.iconst 0, 1) := dd_all DX0_takesNewNote_0_ok 15 rfl
theorem dX0_takesNewNote_37 : decode cX0_takesNewNote 37 = .ok (.ireturn, 1) := dd_all DX0_takesNewNote_0_ok 16 rfl
def DX0_takeNewNote_0 : List (Nat × Instr × Nat) := [(0, .aload_n 0, 1), (1, .invokevirtual 127, 3), (4, .istore 4, 2), (6, .aload_n 0, 1), (7, .getfield 12, 3), (10, .iload_n 1, 1), (11, .iload_n 2, 1), (12, .iload_n 3, 1), (13, .invokevirtual 131, 3), (16, .istore 5, 2), (18, .iload 4, 2), (20, .ifCond .eq 15, 3), (23, .aload_n 0, 1), (24, .getfield 30, 3), (27, .iload 5, 2), (29, .invokevirtual 135, 3), (32, .iload 5, 2), (34, .ireturn, 1), (35, .aload_n 0, 1), (36, .invokevirtual 119, 3), (39, .ifCond .ne 11, 3), (42, .aload_n 0, 1), (43, .aload_n 0, 1), (44, .invokevirtual 123, 3), (47, .invokevirtual 137, 3), (50, .aload_n 0, 1), (51, .iload 5, 2), (53, .invokevirtual 140, 3), (56, .iload 5, 2), (58, .ireturn, 1)]
theorem DX0_takeNewNote_0_ok : ∀ q ∈ DX0_takeNewNote_0, decode cX0_takeNewNote q.1 = .ok (q.2.1, q.2.2) := by decide +kernel
theorem dX0_takeNewNote_0 : decode cX0_takeNewNote 0 = .ok (.aload_n 0, 1) := dd_all DX0_takeNewNote_0_ok 0 rfl
theorem dX0_takeNewNote_1 : decode cX0_takeNewNote 1 = .ok (.invokevirtual 127, 3) := dd_all DX0_takeNewNote_0_ok 1 rfl
theorem dX0_takeNewNote_4 : decode cX0_takeNewNote 4 = .ok (.istore 4, 2) := dd_all DX0_takeNewNote_0_ok 2 rfl
theorem dX0_takeNewNote_6 : decode cX0_takeNewNote 6 = .ok (.aload_n 0, 1) := dd_all DX0_takeNewNote_0_ok 3 rfl
theorem dX0_takeNewNote_7 : decode cX0_takeNewNote 7 = .ok (.getfield 12, 3) := dd_all DX0_takeNewNote_0_ok 4 rfl
theorem dX0_takeNewNote_10 : decode cX0_takeNewNote 10 = .ok (.iload_n 1, 1) := dd_all DX0_takeNewNote_0_ok 5 rfl
theorem dX0_takeNewNote_11 : decode cX0_takeNewNote 11 = .ok (.iload_n 2, 1) := dd_all DX0_takeNewNote_0_ok 6 rfl
theorem dX0_takeNewNote_12 : decode cX0_takeNewNote 12 = .ok (.iload_n 3, 1) := dd_all DX0_takeNewNote_0_ok 7 rfl
theorem dX0_takeNewNote_13 : decode cX0_takeNewNote 13 = .ok (.invokevirtual 131, 3) := dd_all DX0_takeNewNote_0_ok 8 rfl
theorem dX0_takeNewNote_16 : decode cX0_takeNewNote 16 = .ok (.istore 5, 2) := dd_all DX0_takeNewNote_0_ok 9 rfl
theorem dX0_takeNewNote_18 : decode cX0_takeNewNote 18 = .ok (.iload 4, 2) := dd_all DX0_takeNewNote_0_ok 10 rfl
theorem dX0_takeNewNote_20 : decode cX0_takeNewNote 20 = .ok (.ifCond .eq 15, 3) := dd_all DX0_takeNewNote_0_ok 11 rfl
theorem dX0_takeNewNote_23 : decode cX0_takeNewNote 23 = .ok (.aload_n 0, 1) := dd_all DX0_takeNewNote_0_ok 12 rfl
theorem dX0_takeNewNote_24 : decode cX0_takeNewNote 24 = .ok (.getfield 30, 3) := dd_all DX0_takeNewNote_0_ok 13 rfl
theorem dX0_takeNewNote_27 : decode cX0_takeNewNote 27 = .ok (.iload 5, 2) := dd_all DX0_takeNewNote_0_ok 14 rfl
theorem dX0_takeNewNote_29 : decode cX0_takeNewNote 29 = .ok (.invokevirtual 135, 3) := dd_all DX0_takeNewNote_0_ok 15 rfl
theorem dX0_takeNewNote_32 : decode cX0_takeNewNote 32 = .ok (.iload 5, 2) := dd_all DX0_takeNewNote_0_ok 16 rfl
theorem dX0_takeNewNote_34 : decode cX0_takeNewNote 34 = .ok (.ireturn, 1) := dd_all DX0_takeNewNote_0_ok 17 rfl
theorem dX0_takeNewNote_35 : decode cX0_takeNewNote 35 = .ok (.aload_n 0, 1) := dd_all DX0_takeNewNote_0_ok 18 rfl
theorem dX0_takeNewNote_36 : decode cX0_takeNewNote 36 = .ok (.invokevirtual 119, 3) := dd_all DX0_takeNewNote_0_ok 19 rfl
theorem dX0_takeNewNote_39 : decode cX0_takeNewNote 39 = .ok (.ifCond .ne 11, 3) := dd_all DX0_takeNewNote_0_ok 20 rfl
theorem dX0_takeNewNote_42 : decode cX0_takeNewNote 42 = .ok (.aload_n 0, 1) := dd_all DX0_takeNewNote_0_ok 21 rfl
theorem dX0_takeNewNote_43 : decode cX0_takeNewNote 43 = .ok (.aload_n 0, 1) := dd_all DX0_takeNewNote_0_ok 22 rfl
theorem dX0_takeNewNote_44 : decode cX0_takeNewNote 44 = .ok (.invokevirtual 123, 3) := dd_all DX0_takeNewNote_0_ok 23 rfl
theorem dX0_takeNewNote_47 : decode cX0_takeNewNote 47 = .ok (.invokevirtual 137, 3) := dd_all DX0_takeNewNote_0_ok 24 rfl
theorem dX0_takeNewNote_50 : decode cX0_takeNewNote 50 = .ok (.aload_n 0, 1) := dd_all DX0_takeNewNote_0_ok 25 rfl
theorem dX0_takeNewNote_51 : decode cX0_takeNewNote 51 = .ok (.iload 5, 2) := dd_all DX0_takeNewNote_0_ok 26 rfl
theorem dX0_takeNewNote_53 : decode cX0_takeNewNote 53 = .ok (.invokevirtual 140, 3) := dd_all DX0_takeNewNote_0_ok 27 rfl
theorem dX0_takeNewNote_56 : decode cX0_takeNewNote 56 = .ok (.iload 5, 2) := dd_all DX0_takeNewNote_0_ok 28 rfl
theorem dX0_takeNewNote_58 : decode cX0_takeNewNote 58 = .ok (.ireturn, 1) := dd_all DX0_takeNewNote_0_ok 29 rfl
def DX0_sendHome_0 : List (Nat × Instr × Nat) := [(0, .aload_n 0, 1), (1, .getfield 23, 3), (4, .iload_n 1, 1), (5, .invokevirtual 143, 3), (8, .aload_n 0, 1), (9, .getfield 27, 3), (12, .iload_n 1, 1), (13, .invokevirtual 135, 3), (16, .aload_n 0, 1), (17, .getfield 12, 3), (20, .iload_n 1, 1), (21, .iconst 5, 1), (22, .invokevirtual 146, 3), (25, .aload_n 0, 1), (26, .dup, 1), (27, .getfield 72, 3), (30, .iconst 1, 1), (31, .iadd, 1), (32, .putfield 72, 3), (35, .return_, 1)]
theorem DX0_sendHome_0_ok : ∀ q ∈ DX0_sendHome_0, decode cX0_sendHome q.1 = .ok (q.2.1, q.2.2) := by decide +kernel
theorem dX0_sendHome_0 : decode cX0_sendHome 0 = .ok (.aload_n 0, 1) := dd_all DX0_sendHome_0_ok 0 rfl
theorem dX0_sendHome_1 : decode cX0_sendHome 1 = .ok (.getfield 23, 3) := dd_all DX0_sendHome_0_ok 1 rfl
theorem dX0_sendHome_4 : decode cX0_sendHome 4 = .ok (.iload_n 1, 1) := dd_all DX0_sendHome_0_ok 2 rfl
theorem dX0_sendHome_5 : decode cX0_sendHome 5 = .ok (.invokevirtual 143, 3) := dd_all DX0_sendHome_0_ok 3 rfl
theorem dX0_sendHome_8 : decode cX0_sendHome 8 = .ok (.aload_n 0, 1) := dd_all DX0_sendHome_0_ok 4 rfl
theorem dX0_sendHome_9 : decode cX0_sendHome 9 = .ok (.getfield 27, 3) := dd_all DX0_sendHome_0_ok 5 rfl
theorem dX0_sendHome_12 : decode cX0_sendHome 12 = .ok (.iload_n 1, 1) := dd_all DX0_sendHome_0_ok 6 rfl
theorem dX0_sendHome_13 : decode cX0_sendHome 13 = .ok (.invokevirtual 135, 3) := dd_all DX0_sendHome_0_ok 7 rfl
theorem dX0_sendHome_16 : decode cX0_sendHome 16 = .ok (.aload_n 0, 1) := dd_all DX0_sendHome_0_ok 8 rfl
theorem dX0_sendHome_17 : decode cX0_sendHome 17 = .ok (.getfield 12, 3) := dd_all DX0_sendHome_0_ok 9 rfl
theorem dX0_sendHome_20 : decode cX0_sendHome 20 = .ok (.iload_n 1, 1) := dd_all DX0_sendHome_0_ok 10 rfl
theorem dX0_sendHome_21 : decode cX0_sendHome 21 = .ok (.iconst 5, 1) := dd_all DX0_sendHome_0_ok 11 rfl
theorem dX0_sendHome_22 : decode cX0_sendHome 22 = .ok (.invokevirtual 146, 3) := dd_all DX0_sendHome_0_ok 12 rfl
theorem dX0_sendHome_25 : decode cX0_sendHome 25 = .ok (.aload_n 0, 1) := dd_all DX0_sendHome_0_ok 13 rfl
theorem dX0_sendHome_26 : decode cX0_sendHome 26 = .ok (.dup, 1) := dd_all DX0_sendHome_0_ok 14 rfl
theorem dX0_sendHome_27 : decode cX0_sendHome 27 = .ok (.getfield 72, 3) := dd_all DX0_sendHome_0_ok 15 rfl
theorem dX0_sendHome_30 : decode cX0_sendHome 30 = .ok (.iconst 1, 1) := dd_all DX0_sendHome_0_ok 16 rfl
theorem dX0_sendHome_31 : decode cX0_sendHome 31 = .ok (.iadd, 1) := dd_all DX0_sendHome_0_ok 17 rfl
theorem dX0_sendHome_32 : decode cX0_sendHome 32 = .ok (.putfield 72, 3) := dd_all DX0_sendHome_0_ok 18 rfl
theorem dX0_sendHome_35 : decode cX0_sendHome 35 = .ok (.return_, 1) := dd_all DX0_sendHome_0_ok 19 rfl
def DX0_comeIn_0 : List (Nat × Instr × Nat) := [(0, .aload_n 0, 1), (1, .getfield 12, 3), (4, .getfield 97, 3), (7, .iload_n 1, 1), (8, .iconst 1, 1), (9, .invokestatic 150, 3), (12, .aload_n 0, 1), (13, .getfield 23, 3), (16, .iload_n 1, 1), (17, .invokevirtual 135, 3), (20, .return_, 1)]
theorem DX0_comeIn_0_ok : ∀ q ∈ DX0_comeIn_0, decode cX0_comeIn q.1 = .ok (q.2.1, q.2.2) := by decide +kernel
theorem dX0_comeIn_0 : decode cX0_comeIn 0 = .ok (.aload_n 0, 1) := dd_all DX0_comeIn_0_ok 0 rfl
theorem dX0_comeIn_1 : decode cX0_comeIn 1 = .ok (.getfield 12, 3) := dd_all DX0_comeIn_0_ok 1 rfl
theorem dX0_comeIn_4 : decode cX0_comeIn 4 = .ok (.getfield 97, 3) := dd_all DX0_comeIn_0_ok 2 rfl
theorem dX0_comeIn_7 : decode cX0_comeIn 7 = .ok (.iload_n 1, 1) := dd_all DX0_comeIn_0_ok 3 rfl
theorem dX0_comeIn_8 : decode cX0_comeIn 8 = .ok (.iconst 1, 1) := dd_all DX0_comeIn_0_ok 4 rfl
theorem dX0_comeIn_9 : decode cX0_comeIn 9 = .ok (.invokestatic 150, 3) := dd_all DX0_comeIn_0_ok 5 rfl
theorem dX0_comeIn_12 : decode cX0_comeIn 12 = .ok (.aload_n 0, 1) := dd_all DX0_comeIn_0_ok 6 rfl
theorem dX0_comeIn_13 : decode cX0_comeIn 13 = .ok (.getfield 23, 3) := dd_all DX0_comeIn_0_ok 7 rfl
theorem dX0_comeIn_16 : decode cX0_comeIn 16 = .ok (.iload_n 1, 1) := dd_all DX0_comeIn_0_ok 8 rfl
theorem dX0_comeIn_17 : decode cX0_comeIn 17 = .ok (.invokevirtual 135, 3) := dd_all DX0_comeIn_0_ok 9 rfl
theorem dX0_comeIn_20 : decode cX0_comeIn 20 = .ok (.return_, 1) := dd_all DX0_comeIn_0_ok 10 rfl
def DX0_beginAnew_0 : List (Nat × Instr × Nat) := [(0, .aload_n 0, 1), (1, .getfield 12, 3), (4, .iload_n 1, 1), (5, .iload_n 2, 1), (6, .invokevirtual 154, 3), (9, .aload_n 0, 1), (10, .getfield 23, 3), (13, .iload_n 1, 1), (14, .invokevirtual 143, 3), (17, .aload_n 0, 1), (18, .getfield 23, 3), (21, .iload_n 1, 1), (22, .invokevirtual 135, 3), (25, .aload_n 0, 1), (26, .dup, 1), (27, .getfield 75, 3), (30, .iconst 1, 1), (31, .iadd, 1), (32, .putfield 75, 3), (35, .return_, 1)]
theorem DX0_beginAnew_0_ok : ∀ q ∈ DX0_beginAnew_0, decode cX0_beginAnew q.1 = .ok (q.2.1, q.2.2) := by decide +kernel
theorem dX0_beginAnew_0 : decode cX0_beginAnew 0 = .ok (.aload_n 0, 1) := dd_all DX0_beginAnew_0_ok 0 rfl
theorem dX0_beginAnew_1 : decode cX0_beginAnew 1 = .ok (.getfield 12, 3) := dd_all DX0_beginAnew_0_ok 1 rfl
theorem dX0_beginAnew_4 : decode cX0_beginAnew 4 = .ok (.iload_n 1, 1) := dd_all DX0_beginAnew_0_ok 2 rfl
theorem dX0_beginAnew_5 : decode cX0_beginAnew 5 = .ok (.iload_n 2, 1) := dd_all DX0_beginAnew_0_ok 3 rfl
theorem dX0_beginAnew_6 : decode cX0_beginAnew 6 = .ok (.invokevirtual 154, 3) := dd_all DX0_beginAnew_0_ok 4 rfl
theorem dX0_beginAnew_9 : decode cX0_beginAnew 9 = .ok (.aload_n 0, 1) := dd_all DX0_beginAnew_0_ok 5 rfl
theorem dX0_beginAnew_10 : decode cX0_beginAnew 10 = .ok (.getfield 23, 3) := dd_all DX0_beginAnew_0_ok 6 rfl
theorem dX0_beginAnew_13 : decode cX0_beginAnew 13 = .ok (.iload_n 1, 1) := dd_all DX0_beginAnew_0_ok 7 rfl
theorem dX0_beginAnew_14 : decode cX0_beginAnew 14 = .ok (.invokevirtual 143, 3) := dd_all DX0_beginAnew_0_ok 8 rfl
theorem dX0_beginAnew_17 : decode cX0_beginAnew 17 = .ok (.aload_n 0, 1) := dd_all DX0_beginAnew_0_ok 9 rfl
theorem dX0_beginAnew_18 : decode cX0_beginAnew 18 = .ok (.getfield 23, 3) := dd_all DX0_beginAnew_0_ok 10 rfl
theorem dX0_beginAnew_21 : decode cX0_beginAnew 21 = .ok (.iload_n 1, 1) := dd_all DX0_beginAnew_0_ok 11 rfl
theorem dX0_beginAnew_22 : decode cX0_beginAnew 22 = .ok (.invokevirtual 135, 3) := dd_all DX0_beginAnew_0_ok 12 rfl
theorem dX0_beginAnew_25 : decode cX0_beginAnew 25 = .ok (.aload_n 0, 1) := dd_all DX0_beginAnew_0_ok 13 rfl
theorem dX0_beginAnew_26 : decode cX0_beginAnew 26 = .ok (.dup, 1) := dd_all DX0_beginAnew_0_ok 14 rfl
theorem dX0_beginAnew_27 : decode cX0_beginAnew 27 = .ok (.getfield 75, 3) := dd_all DX0_beginAnew_0_ok 15 rfl
theorem dX0_beginAnew_30 : decode cX0_beginAnew 30 = .ok (.iconst 1, 1) := dd_all DX0_beginAnew_0_ok 16 rfl
theorem dX0_beginAnew_31 : decode cX0_beginAnew 31 = .ok (.iadd, 1) := dd_all DX0_beginAnew_0_ok 17 rfl
theorem dX0_beginAnew_32 : decode cX0_beginAnew 32 = .ok (.putfield 75, 3) := dd_all DX0_beginAnew_0_ok 18 rfl
theorem dX0_beginAnew_35 : decode cX0_beginAnew 35 = .ok (.return_, 1) := dd_all DX0_beginAnew_0_ok 19 rfl
def DX0_letGo_0 : List (Nat × Instr × Nat) := [(0, .aload_n 0, 1), (1, .getfield 12, 3), (4, .getfield 97, 3), (7, .iload_n 1, 1), (8, .invokestatic 100, 3), (11, .ifCond .ne 22, 3), (14, .aload_n 0, 1), (15, .getfield 30, 3), (18, .iload_n 1, 1), (19, .invokevirtual 143, 3), (22, .aload_n 0, 1), (23, .getfield 12, 3), (26, .iload_n 1, 1), (27, .invokevirtual 157, 3), (30, .goto 35, 3), (33, .aload_n 0, 1), (34, .getfield 69, 3), (37, .iconst 1, 1), (38, .if_icmp .ne 18, 3), (41, .aload_n 0, 1), (42, .getfield 12, 3), (45, .getfield 104, 3), (48, .iload_n 1, 1), (49, .iconst 1, 1), (50, .invokestatic 150, 3), (53, .goto 12, 3), (56, .aload_n 0, 1), (57, .getfield 12, 3), (60, .iload_n 1, 1), (61, .iconst 4, 1), (62, .invokevirtual 146, 3), (65, .return_, 1)]
theorem DX0_letGo_0_ok : ∀ q ∈ DX0_letGo_0, decode cX0_letGo q.1 = .ok (q.2.1, q.2.2) := by decide +kernel
theorem dX0_letGo_0 : decode cX0_letGo 0 = .ok (.aload_n 0, 1) := dd_all DX0_letGo_0_ok 0 rfl
theorem dX0_letGo_1 : decode cX0_letGo 1 = .ok (.getfield 12, 3) := dd_all DX0_letGo_0_ok 1 rfl
theorem dX0_letGo_4 : decode cX0_letGo 4 = .ok (.getfield 97, 3) := dd_all DX0_letGo_0_ok 2 rfl
theorem dX0_letGo_7 : decode cX0_letGo 7 = .ok (.iload_n 1, 1) := dd_all DX0_letGo_0_ok 3 rfl
theorem dX0_letGo_8 : decode cX0_letGo 8 = .ok (.invokestatic 100, 3) := dd_all DX0_letGo_0_ok 4 rfl
theorem dX0_letGo_11 : decode cX0_letGo 11 = .ok (.ifCond .ne 22, 3) := dd_all DX0_letGo_0_ok 5 rfl
theorem dX0_letGo_14 : decode cX0_letGo 14 = .ok (.aload_n 0, 1) := dd_all DX0_letGo_0_ok 6 rfl
theorem dX0_letGo_15 : decode cX0_letGo 15 = .ok (.getfield 30, 3) := dd_all DX0_letGo_0_ok 7 rfl
theorem dX0_letGo_18 : decode cX0_letGo 18 = .ok (.iload_n 1, 1) := dd_all DX0_letGo_0_ok 8 rfl
theorem dX0_letGo_19 : decode cX0_letGo 19 = .ok (.invokevirtual 143, 3) := dd_all DX0_letGo_0_ok 9 rfl
theorem dX0_letGo_22 : decode cX0_letGo 22 = .ok (.aload_n 0, 1) := dd_all DX0_letGo_0_ok 10 rfl
theorem dX0_letGo_23 : decode cX0_letGo 23 = .ok (.getfield 12, 3) := dd_all DX0_letGo_0_ok 11 rfl
theorem dX0_letGo_26 : decode cX0_letGo 26 = .ok (.iload_n 1, 1) := dd_all DX0_letGo_0_ok 12 rfl
theorem dX0_letGo_27 : decode cX0_letGo 27 = .ok (.invokevirtual 157, 3) := dd_all DX0_letGo_0_ok 13 rfl
theorem dX0_letGo_30 : decode cX0_letGo 30 = .ok (.goto 35, 3) := dd_all DX0_letGo_0_ok 14 rfl
theorem dX0_letGo_33 : decode cX0_letGo 33 = .ok (.aload_n 0, 1) := dd_all DX0_letGo_0_ok 15 rfl
theorem dX0_letGo_34 : decode cX0_letGo 34 = .ok (.getfield 69, 3) := dd_all DX0_letGo_0_ok 16 rfl
theorem dX0_letGo_37 : decode cX0_letGo 37 = .ok (.iconst 1, 1) := dd_all DX0_letGo_0_ok 17 rfl
theorem dX0_letGo_38 : decode cX0_letGo 38 = .ok (.if_icmp .ne 18, 3) := dd_all DX0_letGo_0_ok 18 rfl
theorem dX0_letGo_41 : decode cX0_letGo 41 = .ok (.aload_n 0, 1) := dd_all DX0_letGo_0_ok 19 rfl
theorem dX0_letGo_42 : decode cX0_letGo 42 = .ok (.getfield 12, 3) := dd_all DX0_letGo_0_ok 20 rfl
theorem dX0_letGo_45 : decode cX0_letGo 45 = .ok (.getfield 104, 3) := dd_all DX0_letGo_0_ok 21 rfl
theorem dX0_letGo_48 : decode cX0_letGo 48 = .ok (.iload_n 1, 1) := dd_all DX0_letGo_0_ok 22 rfl
theorem dX0_letGo_49 : decode cX0_letGo 49 = .ok (.iconst 1, 1) := dd_all DX0_letGo_0_ok 23 rfl
theorem dX0_letGo_50 : decode cX0_letGo 50 = .ok (.invokestatic 150, 3) := dd_all DX0_letGo_0_ok 24 rfl
theorem dX0_letGo_53 : decode cX0_letGo 53 = .ok (.goto 12, 3) := dd_all DX0_letGo_0_ok 25 rfl
theorem dX0_letGo_56 : decode cX0_letGo 56 = .ok (.aload_n 0, 1) := dd_all DX0_letGo_0_ok 26 rfl
theorem dX0_letGo_57 : decode cX0_letGo 57 = .ok (.getfield 12, 3) := dd_all DX0_letGo_0_ok 27 rfl
theorem dX0_letGo_60 : decode cX0_letGo 60 = .ok (.iload_n 1, 1) := dd_all DX0_letGo_0_ok 28 rfl
theorem dX0_letGo_61 : decode cX0_letGo 61 = .ok (.iconst 4, 1) := dd_all DX0_letGo_0_ok 29 rfl
theorem dX0_letGo_62 : decode cX0_letGo 62 = .ok (.invokevirtual 146, 3) := dd_all DX0_letGo_0_ok 30 rfl
theorem dX0_letGo_65 : decode cX0_letGo 65 = .ok (.return_, 1) := dd_all DX0_letGo_0_ok 31 rfl
def DX0_movePedal_0 : List (Nat × Instr × Nat) := [(0, .aload_n 0, 1), (1, .iload_n 1, 1), (2, .putfield 69, 3), (5, .iconst 0, 1), (6, .istore_n 2, 1), (7, .iconst 0, 1), (8, .istore_n 3, 1), (9, .iload_n 3, 1), (10, .aload_n 0, 1), (11, .getfield 23, 3), (14, .getfield 78, 3), (17, .if_icmp .ge 52, 3), (20, .aload_n 0, 1), (21, .getfield 23, 3), (24, .iload_n 3, 1), (25, .invokevirtual 81, 3), (28, .istore 4, 2), (30, .iload_n 1, 1), (31, .ifCond .ne 32, 3), (34, .aload_n 0, 1), (35, .getfield 12, 3), (38, .getfield 104, 3), (41, .iload 4, 2), (43, .invokestatic 100, 3), (46, .iconst 1, 1), (47, .if_icmp .ne 16, 3), (50, .aload_n 0, 1), (51, .getfield 12, 3), (54, .iload 4, 2), (56, .iconst 4, 1), (57, .invokevirtual 146, 3), (60, .iinc 2 1, 3), (63, .iinc 3 1, 3), (66, .goto (-57), 3), (69, .iload_n 2, 1), (70, .ireturn, 1)]
theorem DX0_movePedal_0_ok : ∀ q ∈ DX0_movePedal_0, decode cX0_movePedal q.1 = .ok (q.2.1, q.2.2) := by decide +kernel
theorem dX0_movePedal_0 : decode cX0_movePedal 0 = .ok (.aload_n 0, 1) := dd_all DX0_movePedal_0_ok 0 rfl
theorem dX0_movePedal_1 : decode cX0_movePedal 1 = .ok (.iload_n 1, 1) := dd_all DX0_movePedal_0_ok 1 rfl
theorem dX0_movePedal_2 : decode cX0_movePedal 2 = .ok (.putfield 69, 3) := dd_all DX0_movePedal_0_ok 2 rfl
theorem dX0_movePedal_5 : decode cX0_movePedal 5 = .ok (.iconst 0, 1) := dd_all DX0_movePedal_0_ok 3 rfl
theorem dX0_movePedal_6 : decode cX0_movePedal 6 = .ok (.istore_n 2, 1) := dd_all DX0_movePedal_0_ok 4 rfl
theorem dX0_movePedal_7 : decode cX0_movePedal 7 = .ok (.iconst 0, 1) := dd_all DX0_movePedal_0_ok 5 rfl
theorem dX0_movePedal_8 : decode cX0_movePedal 8 = .ok (.istore_n 3, 1) := dd_all DX0_movePedal_0_ok 6 rfl
theorem dX0_movePedal_9 : decode cX0_movePedal 9 = .ok (.iload_n 3, 1) := dd_all DX0_movePedal_0_ok 7 rfl
theorem dX0_movePedal_10 : decode cX0_movePedal 10 = .ok (.aload_n 0, 1) := dd_all DX0_movePedal_0_ok 8 rfl
theorem dX0_movePedal_11 : decode cX0_movePedal 11 = .ok (.getfield 23, 3) := dd_all DX0_movePedal_0_ok 9 rfl
theorem dX0_movePedal_14 : decode cX0_movePedal 14 = .ok (.getfield 78, 3) := dd_all DX0_movePedal_0_ok 10 rfl
theorem dX0_movePedal_17 : decode cX0_movePedal 17 = .ok (.if_icmp .ge 52, 3) := dd_all DX0_movePedal_0_ok 11 rfl
theorem dX0_movePedal_20 : decode cX0_movePedal 20 = .ok (.aload_n 0, 1) := dd_all DX0_movePedal_0_ok 12 rfl
theorem dX0_movePedal_21 : decode cX0_movePedal 21 = .ok (.getfield 23, 3) := dd_all DX0_movePedal_0_ok 13 rfl
theorem dX0_movePedal_24 : decode cX0_movePedal 24 = .ok (.iload_n 3, 1) := dd_all DX0_movePedal_0_ok 14 rfl
theorem dX0_movePedal_25 : decode cX0_movePedal 25 = .ok (.invokevirtual 81, 3) := dd_all DX0_movePedal_0_ok 15 rfl
theorem dX0_movePedal_28 : decode cX0_movePedal 28 = .ok (.istore 4, 2) := dd_all DX0_movePedal_0_ok 16 rfl
theorem dX0_movePedal_30 : decode cX0_movePedal 30 = .ok (.iload_n 1, 1) := dd_all DX0_movePedal_0_ok 17 rfl
theorem dX0_movePedal_31 : decode cX0_movePedal 31 = .ok (.ifCond .ne 32, 3) := dd_all DX0_movePedal_0_ok 18 rfl
theorem dX0_movePedal_34 : decode cX0_movePedal 34 = .ok (.aload_n 0, 1) := dd_all DX0_movePedal_0_ok 19 rfl
theorem dX0_movePedal_35 : decode cX0_movePedal 35 = .ok (.getfield 12, 3) := dd_all DX0_movePedal_0_ok 20 rfl
theorem dX0_movePedal_38 : decode cX0_movePedal 38 = .ok (.getfield 104, 3) := dd_all DX0_movePedal_0_ok 21 rfl
theorem dX0_movePedal_41 : decode cX0_movePedal 41 = .ok (.iload 4, 2) := dd_all DX0_movePedal_0_ok 22 rfl
theorem dX0_movePedal_43 : decode cX0_movePedal 43 = .ok (.invokestatic 100, 3) := dd_all DX0_movePedal_0_ok 23 rfl
theorem dX0_movePedal_46 : decode cX0_movePedal 46 = .ok (.iconst 1, 1) := dd_all DX0_movePedal_0_ok 24 rfl
theorem dX0_movePedal_47 : decode cX0_movePedal 47 = .ok (.if_icmp .ne 16, 3) := dd_all DX0_movePedal_0_ok 25 rfl
theorem dX0_movePedal_50 : decode cX0_movePedal 50 = .ok (.aload_n 0, 1) := dd_all DX0_movePedal_0_ok 26 rfl
theorem dX0_movePedal_51 : decode cX0_movePedal 51 = .ok (.getfield 12, 3) := dd_all DX0_movePedal_0_ok 27 rfl
theorem dX0_movePedal_54 : decode cX0_movePedal 54 = .ok (.iload 4, 2) := dd_all DX0_movePedal_0_ok 28 rfl
theorem dX0_movePedal_56 : decode cX0_movePedal 56 = .ok (.iconst 4, 1) := dd_all DX0_movePedal_0_ok 29 rfl
theorem dX0_movePedal_57 : decode cX0_movePedal 57 = .ok (.invokevirtual 146, 3) := dd_all DX0_movePedal_0_ok 30 rfl
theorem dX0_movePedal_60 : decode cX0_movePedal 60 = .ok (.iinc 2 1, 3) := dd_all DX0_movePedal_0_ok 31 rfl
theorem dX0_movePedal_63 : decode cX0_movePedal 63 = .ok (.iinc 3 1, 3) := dd_all DX0_movePedal_0_ok 32 rfl
theorem dX0_movePedal_66 : decode cX0_movePedal 66 = .ok (.goto (-57), 3) := dd_all DX0_movePedal_0_ok 33 rfl
theorem dX0_movePedal_69 : decode cX0_movePedal 69 = .ok (.iload_n 2, 1) := dd_all DX0_movePedal_0_ok 34 rfl
theorem dX0_movePedal_70 : decode cX0_movePedal 70 = .ok (.ireturn, 1) := dd_all DX0_movePedal_0_ok 35 rfl
def DX0_passTick_0 : List (Nat × Instr × Nat) := [(0, .aload_n 0, 1), (1, .dup, 1), (2, .getfield 65, 3), (5, .iconst 1, 1), (6, .iadd, 1), (7, .putfield 65, 3), (10, .aload_n 0, 1), (11, .aload_n 0, 1), (12, .getfield 23, 3), (15, .invokevirtual 160, 3), (18, .aload_n 0, 1), (19, .aload_n 0, 1), (20, .getfield 27, 3), (23, .invokevirtual 160, 3), (26, .aload_n 0, 1), (27, .invokevirtual 163, 3), (30, .return_, 1)]
theorem DX0_passTick_0_ok : ∀ q ∈ DX0_passTick_0, decode cX0_passTick q.1 = .ok (q.2.1, q.2.2) := by decide +kernel
theorem dX0_passTick_0 : decode cX0_passTick 0 = .ok (.aload_n 0, 1) := dd_all DX0_passTick_0_ok 0 rfl
theorem dX0_passTick_1 : decode cX0_passTick 1 = .ok (.dup, 1) := dd_all DX0_passTick_0_ok 1 rfl
theorem dX0_passTick_2 : decode cX0_passTick 2 = .ok (.getfield 65, 3) := dd_all DX0_passTick_0_ok 2 rfl
theorem dX0_passTick_5 : decode cX0_passTick 5 = .ok (.iconst 1, 1) := dd_all DX0_passTick_0_ok 3 rfl
theorem dX0_passTick_6 : decode cX0_passTick 6 = .ok (.iadd, 1) := dd_all DX0_passTick_0_ok 4 rfl
theorem dX0_passTick_7 : decode cX0_passTick 7 = .ok (.putfield 65, 3) := dd_all DX0_passTick_0_ok 5 rfl
theorem dX0_passTick_10 : decode cX0_passTick 10 = .ok (.aload_n 0, 1) := dd_all DX0_passTick_0_ok 6 rfl
theorem dX0_passTick_11 : decode cX0_passTick 11 = .ok (.aload_n 0, 1) := dd_all DX0_passTick_0_ok 7 rfl
theorem dX0_passTick_12 : decode cX0_passTick 12 = .ok (.getfield 23, 3) := dd_all DX0_passTick_0_ok 8 rfl
theorem dX0_passTick_15 : decode cX0_passTick 15 = .ok (.invokevirtual 160, 3) := dd_all DX0_passTick_0_ok 9 rfl
theorem dX0_passTick_18 : decode cX0_passTick 18 = .ok (.aload_n 0, 1) := dd_all DX0_passTick_0_ok 10 rfl
theorem dX0_passTick_19 : decode cX0_passTick 19 = .ok (.aload_n 0, 1) := dd_all DX0_passTick_0_ok 11 rfl
theorem dX0_passTick_20 : decode cX0_passTick 20 = .ok (.getfield 27, 3) := dd_all DX0_passTick_0_ok 12 rfl
theorem dX0_passTick_23 : decode cX0_passTick 23 = .ok (.invokevirtual 160, 3) := dd_all DX0_passTick_0_ok 13 rfl
theorem dX0_passTick_26 : decode cX0_passTick 26 = .ok (.aload_n 0, 1) := dd_all DX0_passTick_0_ok 14 rfl
theorem dX0_passTick_27 : decode cX0_passTick 27 = .ok (.invokevirtual 163, 3) := dd_all DX0_passTick_0_ok 15 rfl
theorem dX0_passTick_30 : decode cX0_passTick 30 = .ok (.return_, 1) := dd_all DX0_passTick_0_ok 16 rfl
def DX0_moveAll_0 : List (Nat × Instr × Nat) := [(0, .aload_n 1, 1), (1, .getfield 78, 3), (4, .iconst 1, 1), (5, .isub, 1), (6, .istore_n 2, 1), (7, .iload_n 2, 1), (8, .ifCond .lt 39, 3), (11, .aload_n 1, 1), (12, .iload_n 2, 1), (13, .invokevirtual 81, 3), (16, .istore_n 3, 1), (17, .aload_n 0, 1), (18, .getfield 12, 3), (21, .iload_n 3, 1), (22, .invokevirtual 166, 3), (25, .aload_n 0, 1), (26, .getfield 12, 3), (29, .iload_n 3, 1), (30, .invokevirtual 169, 3), (33, .ifCond .ne 8, 3), (36, .aload_n 1, 1), (37, .iload_n 3, 1), (38, .invokevirtual 143, 3), (41, .iinc 2 (-1), 3), (44, .goto (-37), 3), (47, .return_, 1)]
theorem DX0_moveAll_0_ok : ∀ q ∈ DX0_moveAll_0, decode cX0_moveAll q.1 = .ok (q.2.1, q.2.2) := by decide +kernel
theorem dX0_moveAll_0 : decode cX0_moveAll 0 = .ok (.aload_n 1, 1) := dd_all DX0_moveAll_0_ok 0 rfl
theorem dX0_moveAll_1 : decode cX0_moveAll 1 = .ok (.getfield 78, 3) := dd_all DX0_moveAll_0_ok 1 rfl
theorem dX0_moveAll_4 : decode cX0_moveAll 4 = .ok (.iconst 1, 1) := dd_all DX0_moveAll_0_ok 2 rfl
theorem dX0_moveAll_5 : decode cX0_moveAll 5 = .ok (.isub, 1) := dd_all DX0_moveAll_0_ok 3 rfl
theorem dX0_moveAll_6 : decode cX0_moveAll 6 = .ok (.istore_n 2, 1) := dd_all DX0_moveAll_0_ok 4 rfl
theorem dX0_moveAll_7 : decode cX0_moveAll 7 = .ok (.iload_n 2, 1) := dd_all DX0_moveAll_0_ok 5 rfl
theorem dX0_moveAll_8 : decode cX0_moveAll 8 = .ok (.ifCond .lt 39, 3) := dd_all DX0_moveAll_0_ok 6 rfl
theorem dX0_moveAll_11 : decode cX0_moveAll 11 = .ok (.aload_n 1, 1) := dd_all DX0_moveAll_0_ok 7 rfl
theorem dX0_moveAll_12 : decode cX0_moveAll 12 = .ok (.iload_n 2, 1) := dd_all DX0_moveAll_0_ok 8 rfl
theorem dX0_moveAll_13 : decode cX0_moveAll 13 = .ok (.invokevirtual 81, 3) := dd_all DX0_moveAll_0_ok 9 rfl
theorem dX0_moveAll_16 : decode cX0_moveAll 16 = .ok (.istore_n 3, 1) := dd_all DX0_moveAll_0_ok 10 rfl
theorem dX0_moveAll_17 : decode cX0_moveAll 17 = .ok (.aload_n 0, 1) := dd_all DX0_moveAll_0_ok 11 rfl
theorem dX0_moveAll_18 : decode cX0_moveAll 18 = .ok (.getfield 12, 3) := dd_all DX0_moveAll_0_ok 12 rfl
theorem dX0_moveAll_21 : decode cX0_moveAll 21 = .ok (.iload_n 3, 1) := dd_all DX0_moveAll_0_ok 13 rfl
theorem dX0_moveAll_22 : decode cX0_moveAll 22 = .ok (.invokevirtual 166, 3) := dd_all DX0_moveAll_0_ok 14 rfl
theorem dX0_moveAll_25 : decode cX0_moveAll 25 = .ok (.aload_n 0, 1) := dd_all DX0_moveAll_0_ok 15 rfl
theorem dX0_moveAll_26 : decode cX0_moveAll 26 = .ok (.getfield 12, 3) := dd_all DX0_moveAll_0_ok 16 rfl
theorem dX0_moveAll_29 : decode cX0_moveAll 29 = .ok (.iload_n 3, 1) := dd_all DX0_moveAll_0_ok 17 rfl
theorem dX0_moveAll_30 : decode cX0_moveAll 30 = .ok (.invokevirtual 169, 3) := dd_all DX0_moveAll_0_ok 18 rfl
theorem dX0_moveAll_33 : decode cX0_moveAll 33 = .ok (.ifCond .ne 8, 3) := dd_all DX0_moveAll_0_ok 19 rfl
theorem dX0_moveAll_36 : decode cX0_moveAll 36 = .ok (.aload_n 1, 1) := dd_all DX0_moveAll_0_ok 20 rfl
theorem dX0_moveAll_37 : decode cX0_moveAll 37 = .ok (.iload_n 3, 1) := dd_all DX0_moveAll_0_ok 21 rfl
theorem dX0_moveAll_38 : decode cX0_moveAll 38 = .ok (.invokevirtual 143, 3) := dd_all DX0_moveAll_0_ok 22 rfl
theorem dX0_moveAll_41 : decode cX0_moveAll 41 = .ok (.iinc 2 (-1), 3) := dd_all DX0_moveAll_0_ok 23 rfl
theorem dX0_moveAll_44 : decode cX0_moveAll 44 = .ok (.goto (-37), 3) := dd_all DX0_moveAll_0_ok 24 rfl
theorem dX0_moveAll_47 : decode cX0_moveAll 47 = .ok (.return_, 1) := dd_all DX0_moveAll_0_ok 25 rfl
def DX0_openDoor_0 : List (Nat × Instr × Nat) := [(0, .iconst 0, 1), (1, .istore_n 1, 1), (2, .iload_n 1, 1), (3, .bipush 6, 2), (5, .if_icmp .ge 113, 3), (8, .aload_n 0, 1), (9, .getfield 30, 3), (12, .getfield 78, 3), (15, .ifCond .le 103, 3), (18, .aload_n 0, 1), (19, .getfield 30, 3), (22, .iconst 0, 1), (23, .invokevirtual 81, 3), (26, .istore_n 2, 1), (27, .aload_n 0, 1), (28, .aload_n 0, 1), (29, .getfield 12, 3), (32, .getfield 173, 3), (35, .iload_n 2, 1), (36, .invokestatic 100, 3), (39, .aload_n 0, 1), (40, .getfield 12, 3), (43, .getfield 176, 3), (46, .iload_n 2, 1), (47, .invokestatic 100, 3), (50, .invokevirtual 93, 3), (53, .istore_n 3, 1), (54, .iload_n 3, 1), (55, .iconst (-1), 1), (56, .if_icmp .ne 11, 3), (59, .aload_n 0, 1), (60, .invokevirtual 119, 3), (63, .ifCond .ne 4, 3), (66, .return_, 1), (67, .aload_n 0, 1), (68, .getfield 30, 3), (71, .iload_n 2, 1), (72, .invokevirtual 143, 3), (75, .iload_n 3, 1), (76, .iconst (-1), 1)]
theorem DX0_openDoor_0_ok : ∀ q ∈ DX0_openDoor_0, decode cX0_openDoor q.1 = .ok (q.2.1, q.2.2) := by decide +kernel
theorem dX0_openDoor_0 : decode cX0_openDoor 0 = .ok (.iconst 0, 1) := dd_all DX0_openDoor_0_ok 0 rfl
theorem dX0_openDoor_1 : decode cX0_openDoor 1 = .ok (.istore_n 1, 1) := dd_all DX0_openDoor_0_ok 1 rfl
theorem dX0_openDoor_2 : decode cX0_openDoor 2 = .ok (.iload_n 1, 1) := dd_all DX0_openDoor_0_ok 2 rfl
theorem dX0_openDoor_3 : decode cX0_openDoor 3 = .ok (.bipush 6, 2) := dd_all DX0_openDoor_0_ok 3 rfl
theorem dX0_openDoor_5 : decode cX0_openDoor 5 = .ok (.if_icmp .ge 113, 3) := dd_all DX0_openDoor_0_ok 4 rfl
theorem dX0_openDoor_8 : decode cX0_openDoor 8 = .ok (.aload_n 0, 1) := dd_all DX0_openDoor_0_ok 5 rfl
theorem dX0_openDoor_9 : decode cX0_openDoor 9 = .ok (.getfield 30, 3) := dd_all DX0_openDoor_0_ok 6 rfl
theorem dX0_openDoor_12 : decode cX0_openDoor 12 = .ok (.getfield 78, 3) := dd_all DX0_openDoor_0_ok 7 rfl
theorem dX0_openDoor_15 : decode cX0_openDoor 15 = .ok (.ifCond .le 103, 3) := dd_all DX0_openDoor_0_ok 8 rfl
theorem dX0_openDoor_18 : decode cX0_openDoor 18 = .ok (.aload_n 0, 1) := dd_all DX0_openDoor_0_ok 9 rfl
theorem dX0_openDoor_19 : decode cX0_openDoor 19 = .ok (.getfield 30, 3) := dd_all DX0_openDoor_0_ok 10 rfl
theorem dX0_openDoor_22 : decode cX0_openDoor 22 = .ok (.iconst 0, 1) := dd_all DX0_openDoor_0_ok 11 rfl
theorem dX0_openDoor_23 : decode cX0_openDoor 23 = .ok (.invokevirtual 81, 3) := dd_all DX0_openDoor_0_ok 12 rfl
theorem dX0_openDoor_26 : decode cX0_openDoor 26 = .ok (.istore_n 2, 1) := dd_all DX0_openDoor_0_ok 13 rfl
theorem dX0_openDoor_27 : decode cX0_openDoor 27 = .ok (.aload_n 0, 1) := dd_all DX0_openDoor_0_ok 14 rfl
theorem dX0_openDoor_28 : decode cX0_openDoor 28 = .ok (.aload_n 0, 1) := dd_all DX0_openDoor_0_ok 15 rfl
theorem dX0_openDoor_29 : decode cX0_openDoor 29 = .ok (.getfield 12, 3) := dd_all DX0_openDoor_0_ok 16 rfl
theorem dX0_openDoor_32 : decode cX0_openDoor 32 = .ok (.getfield 173, 3) := dd_all DX0_openDoor_0_ok 17 rfl
theorem dX0_openDoor_35 : decode cX0_openDoor 35 = .ok (.iload_n 2, 1) := dd_all DX0_openDoor_0_ok 18 rfl
theorem dX0_openDoor_36 : decode cX0_openDoor 36 = .ok (.invokestatic 100, 3) := dd_all DX0_openDoor_0_ok 19 rfl
theorem dX0_openDoor_39 : decode cX0_openDoor 39 = .ok (.aload_n 0, 1) := dd_all DX0_openDoor_0_ok 20 rfl
theorem dX0_openDoor_40 : decode cX0_openDoor 40 = .ok (.getfield 12, 3) := dd_all DX0_openDoor_0_ok 21 rfl
theorem dX0_openDoor_43 : decode cX0_openDoor 43 = .ok (.getfield 176, 3) := dd_all DX0_openDoor_0_ok 22 rfl
theorem dX0_openDoor_46 : decode cX0_openDoor 46 = .ok (.iload_n 2, 1) := dd_all DX0_openDoor_0_ok 23 rfl
theorem dX0_openDoor_47 : decode cX0_openDoor 47 = .ok (.invokestatic 100, 3) := dd_all DX0_openDoor_0_ok 24 rfl
theorem dX0_openDoor_50 : decode cX0_openDoor 50 = .ok (.invokevirtual 93, 3) := dd_all DX0_openDoor_0_ok 25 rfl
theorem dX0_openDoor_53 : decode cX0_openDoor 53 = .ok (.istore_n 3, 1) := dd_all DX0_openDoor_0_ok 26 rfl
theorem dX0_openDoor_54 : decode cX0_openDoor 54 = .ok (.iload_n 3, 1) := dd_all DX0_openDoor_0_ok 27 rfl
theorem dX0_openDoor_55 : decode cX0_openDoor 55 = .ok (.iconst (-1), 1) := dd_all DX0_openDoor_0_ok 28 rfl
theorem dX0_openDoor_56 : decode cX0_openDoor 56 = .ok (.if_icmp .ne 11, 3) := dd_all DX0_openDoor_0_ok 29 rfl
theorem dX0_openDoor_59 : decode cX0_openDoor 59 = .ok (.aload_n 0, 1) := dd_all DX0_openDoor_0_ok 30 rfl
theorem dX0_openDoor_60 : decode cX0_openDoor 60 = .ok (.invokevirtual 119, 3) := dd_all DX0_openDoor_0_ok 31 rfl
theorem dX0_openDoor_63 : decode cX0_openDoor 63 = .ok (.ifCond .ne 4, 3) := dd_all DX0_openDoor_0_ok 32 rfl
theorem dX0_openDoor_66 : decode cX0_openDoor 66 = .ok (.return_, 1) := dd_all DX0_openDoor_0_ok 33 rfl
theorem dX0_openDoor_67 : decode cX0_openDoor 67 = .ok (.aload_n 0, 1) := dd_all DX0_openDoor_0_ok 34 rfl
theorem dX0_openDoor_68 : decode cX0_openDoor 68 = .ok (.getfield 30, 3) := dd_all DX0_openDoor_0_ok 35 rfl
theorem dX0_openDoor_71 : decode cX0_openDoor 71 = .ok (.iload_n 2, 1) := dd_all DX0_openDoor_0_ok 36 rfl
theorem dX0_openDoor_72 : decode cX0_openDoor 72 = .ok (.invokevirtual 143, 3) := dd_all DX0_openDoor_0_ok 37 rfl
theorem dX0_openDoor_75 : decode cX0_openDoor 75 = .ok (.iload_n 3, 1) := dd_all DX0_openDoor_0_ok 38 rfl
theorem dX0_openDoor_76 : decode cX0_openDoor 76 = .ok (.iconst (-1), 1) := dd_all DX0_openDoor_0_ok 39 rfl
def DX0_openDoor_40 : List (Nat × Instr × Nat) := [(77, .if_icmp .ne 11, 3), (80, .aload_n 0, 1), (81, .iload_n 2, 1), (82, .invokevirtual 140, 3), (85, .goto 27, 3), (88, .aload_n 0, 1), (89, .getfield 12, 3), (92, .iload_n 2, 1), (93, .invokevirtual 157, 3), (96, .aload_n 0, 1), (97, .iload_n 3, 1), (98, .aload_n 0, 1), (99, .getfield 12, 3), (102, .getfield 179, 3), (105, .iload_n 2, 1), (106, .invokestatic 100, 3), (109, .invokevirtual 182, 3), (112, .iinc 1 1, 3), (115, .goto (-113), 3), (118, .return_, 1)]
theorem DX0_openDoor_40_ok : ∀ q ∈ DX0_openDoor_40, decode cX0_openDoor q.1 = .ok (q.2.1, q.2.2) := by decide +kernel
theorem dX0_openDoor_77 : decode cX0_openDoor 77 = .ok (.if_icmp .ne 11, 3) := dd_all DX0_openDoor_40_ok 0 rfl
theorem dX0_openDoor_80 : decode cX0_openDoor 80 = .ok (.aload_n 0, 1) := dd_all DX0_openDoor_40_ok 1 rfl
theorem dX0_openDoor_81 : decode cX0_openDoor 81 = .ok (.iload_n 2, 1) := dd_all DX0_openDoor_40_ok 2 rfl
theorem dX0_openDoor_82 : decode cX0_openDoor 82 = .ok (.invokevirtual 140, 3) := dd_all DX0_openDoor_40_ok 3 rfl
theorem dX0_openDoor_85 : decode cX0_openDoor 85 = .ok (.goto 27, 3) := dd_all DX0_openDoor_40_ok 4 rfl
theorem dX0_openDoor_88 : decode cX0_openDoor 88 = .ok (.aload_n 0, 1) := dd_all DX0_openDoor_40_ok 5 rfl
theorem dX0_openDoor_89 : decode cX0_openDoor 89 = .ok (.getfield 12, 3) := dd_all DX0_openDoor_40_ok 6 rfl
theorem dX0_openDoor_92 : decode cX0_openDoor 92 = .ok (.iload_n 2, 1) := dd_all DX0_openDoor_40_ok 7 rfl
theorem dX0_openDoor_93 : decode cX0_openDoor 93 = .ok (.invokevirtual 157, 3) := dd_all DX0_openDoor_40_ok 8 rfl
theorem dX0_openDoor_96 : decode cX0_openDoor 96 = .ok (.aload_n 0, 1) := dd_all DX0_openDoor_40_ok 9 rfl
theorem dX0_openDoor_97 : decode cX0_openDoor 97 = .ok (.iload_n 3, 1) := dd_all DX0_openDoor_40_ok 10 rfl
theorem dX0_openDoor_98 : decode cX0_openDoor 98 = .ok (.aload_n 0, 1) := dd_all DX0_openDoor_40_ok 11 rfl
theorem dX0_openDoor_99 : decode cX0_openDoor 99 = .ok (.getfield 12, 3) := dd_all DX0_openDoor_40_ok 12 rfl
theorem dX0_openDoor_102 : decode cX0_openDoor 102 = .ok (.getfield 179, 3) := dd_all DX0_openDoor_40_ok 13 rfl
theorem dX0_openDoor_105 : decode cX0_openDoor 105 = .ok (.iload_n 2, 1) := dd_all DX0_openDoor_40_ok 14 rfl
theorem dX0_openDoor_106 : decode cX0_openDoor 106 = .ok (.invokestatic 100, 3) := dd_all DX0_openDoor_40_ok 15 rfl
theorem dX0_openDoor_109 : decode cX0_openDoor 109 = .ok (.invokevirtual 182, 3) := dd_all DX0_openDoor_40_ok 16 rfl
theorem dX0_openDoor_112 : decode cX0_openDoor 112 = .ok (.iinc 1 1, 3) := dd_all DX0_openDoor_40_ok 17 rfl
theorem dX0_openDoor_115 : decode cX0_openDoor 115 = .ok (.goto (-113), 3) := dd_all DX0_openDoor_40_ok 18 rfl
theorem dX0_openDoor_118 : decode cX0_openDoor 118 = .ok (.return_, 1) := dd_all DX0_openDoor_40_ok 19 rfl
def DX0_sum_0 : List (Nat × Instr × Nat) := [(0, .iconst 0, 1), (1, .istore_n 1, 1), (2, .iconst 0, 1), (3, .istore_n 2, 1), (4, .iload_n 2, 1), (5, .iconst 4, 1), (6, .if_icmp .ge 31, 3), (9, .iload_n 1, 1), (10, .aload_n 0, 1), (11, .aload_n 0, 1), (12, .getfield 23, 3), (15, .iload_n 2, 1), (16, .invokevirtual 185, 3), (19, .aload_n 0, 1), (20, .aload_n 0, 1), (21, .getfield 27, 3), (24, .iload_n 2, 1), (25, .invokevirtual 185, 3), (28, .iadd, 1), (29, .iadd, 1), (30, .istore_n 1, 1), (31, .iinc 2 1, 3), (34, .goto (-30), 3), (37, .iload_n 1, 1), (38, .ireturn, 1)]
theorem DX0_sum_0_ok : ∀ q ∈ DX0_sum_0, decode cX0_sum q.1 = .ok (q.2.1, q.2.2) := by decide +kernel
theorem dX0_sum_0 : decode cX0_sum 0 = .ok (.iconst 0, 1) := dd_all DX0_sum_0_ok 0 rfl
theorem dX0_sum_1 : decode cX0_sum 1 = .ok (.istore_n 1, 1) := dd_all DX0_sum_0_ok 1 rfl
theorem dX0_sum_2 : decode cX0_sum 2 = .ok (.iconst 0, 1) := dd_all DX0_sum_0_ok 2 rfl
theorem dX0_sum_3 : decode cX0_sum 3 = .ok (.istore_n 2, 1) := dd_all DX0_sum_0_ok 3 rfl
theorem dX0_sum_4 : decode cX0_sum 4 = .ok (.iload_n 2, 1) := dd_all DX0_sum_0_ok 4 rfl
theorem dX0_sum_5 : decode cX0_sum 5 = .ok (.iconst 4, 1) := dd_all DX0_sum_0_ok 5 rfl
theorem dX0_sum_6 : decode cX0_sum 6 = .ok (.if_icmp .ge 31, 3) := dd_all DX0_sum_0_ok 6 rfl
theorem dX0_sum_9 : decode cX0_sum 9 = .ok (.iload_n 1, 1) := dd_all DX0_sum_0_ok 7 rfl
theorem dX0_sum_10 : decode cX0_sum 10 = .ok (.aload_n 0, 1) := dd_all DX0_sum_0_ok 8 rfl
theorem dX0_sum_11 : decode cX0_sum 11 = .ok (.aload_n 0, 1) := dd_all DX0_sum_0_ok 9 rfl
theorem dX0_sum_12 : decode cX0_sum 12 = .ok (.getfield 23, 3) := dd_all DX0_sum_0_ok 10 rfl
theorem dX0_sum_15 : decode cX0_sum 15 = .ok (.iload_n 2, 1) := dd_all DX0_sum_0_ok 11 rfl
theorem dX0_sum_16 : decode cX0_sum 16 = .ok (.invokevirtual 185, 3) := dd_all DX0_sum_0_ok 12 rfl
theorem dX0_sum_19 : decode cX0_sum 19 = .ok (.aload_n 0, 1) := dd_all DX0_sum_0_ok 13 rfl
theorem dX0_sum_20 : decode cX0_sum 20 = .ok (.aload_n 0, 1) := dd_all DX0_sum_0_ok 14 rfl
theorem dX0_sum_21 : decode cX0_sum 21 = .ok (.getfield 27, 3) := dd_all DX0_sum_0_ok 15 rfl
theorem dX0_sum_24 : decode cX0_sum 24 = .ok (.iload_n 2, 1) := dd_all DX0_sum_0_ok 16 rfl
theorem dX0_sum_25 : decode cX0_sum 25 = .ok (.invokevirtual 185, 3) := dd_all DX0_sum_0_ok 17 rfl
theorem dX0_sum_28 : decode cX0_sum 28 = .ok (.iadd, 1) := dd_all DX0_sum_0_ok 18 rfl
theorem dX0_sum_29 : decode cX0_sum 29 = .ok (.iadd, 1) := dd_all DX0_sum_0_ok 19 rfl
theorem dX0_sum_30 : decode cX0_sum 30 = .ok (.istore_n 1, 1) := dd_all DX0_sum_0_ok 20 rfl
theorem dX0_sum_31 : decode cX0_sum 31 = .ok (.iinc 2 1, 3) := dd_all DX0_sum_0_ok 21 rfl
theorem dX0_sum_34 : decode cX0_sum 34 = .ok (.goto (-30), 3) := dd_all DX0_sum_0_ok 22 rfl
theorem dX0_sum_37 : decode cX0_sum 37 = .ok (.iload_n 1, 1) := dd_all DX0_sum_0_ok 23 rfl
theorem dX0_sum_38 : decode cX0_sum 38 = .ok (.ireturn, 1) := dd_all DX0_sum_0_ok 24 rfl
def DX0_levelsOf_0 : List (Nat × Instr × Nat) := [(0, .iconst 0, 1), (1, .istore_n 3, 1), (2, .iconst 0, 1), (3, .istore 4, 2), (5, .iload 4, 2), (7, .aload_n 1, 1), (8, .getfield 78, 3), (11, .if_icmp .ge 52, 3), (14, .aload_n 1, 1), (15, .iload 4, 2), (17, .invokevirtual 81, 3), (20, .istore 5, 2), (22, .iload_n 3, 1), (23, .aload_n 0, 1), (24, .getfield 12, 3), (27, .getfield 173, 3), (30, .iload 5, 2), (32, .invokestatic 100, 3), (35, .iload_n 2, 1), (36, .if_icmp .ne 18, 3), (39, .aload_n 0, 1), (40, .getfield 12, 3), (43, .getfield 116, 3), (46, .iload 5, 2), (48, .invokestatic 100, 3), (51, .goto 4, 3), (54, .iconst 0, 1), (55, .iadd, 1), (56, .istore_n 3, 1), (57, .iinc 4 1, 3), (60, .goto (-55), 3), (63, .iload_n 3, 1), (64, .ireturn, 1)]
theorem DX0_levelsOf_0_ok : ∀ q ∈ DX0_levelsOf_0, decode cX0_levelsOf q.1 = .ok (q.2.1, q.2.2) := by decide +kernel
theorem dX0_levelsOf_0 : decode cX0_levelsOf 0 = .ok (.iconst 0, 1) := dd_all DX0_levelsOf_0_ok 0 rfl
theorem dX0_levelsOf_1 : decode cX0_levelsOf 1 = .ok (.istore_n 3, 1) := dd_all DX0_levelsOf_0_ok 1 rfl
theorem dX0_levelsOf_2 : decode cX0_levelsOf 2 = .ok (.iconst 0, 1) := dd_all DX0_levelsOf_0_ok 2 rfl
theorem dX0_levelsOf_3 : decode cX0_levelsOf 3 = .ok (.istore 4, 2) := dd_all DX0_levelsOf_0_ok 3 rfl
theorem dX0_levelsOf_5 : decode cX0_levelsOf 5 = .ok (.iload 4, 2) := dd_all DX0_levelsOf_0_ok 4 rfl
theorem dX0_levelsOf_7 : decode cX0_levelsOf 7 = .ok (.aload_n 1, 1) := dd_all DX0_levelsOf_0_ok 5 rfl
theorem dX0_levelsOf_8 : decode cX0_levelsOf 8 = .ok (.getfield 78, 3) := dd_all DX0_levelsOf_0_ok 6 rfl
theorem dX0_levelsOf_11 : decode cX0_levelsOf 11 = .ok (.if_icmp .ge 52, 3) := dd_all DX0_levelsOf_0_ok 7 rfl
theorem dX0_levelsOf_14 : decode cX0_levelsOf 14 = .ok (.aload_n 1, 1) := dd_all DX0_levelsOf_0_ok 8 rfl
theorem dX0_levelsOf_15 : decode cX0_levelsOf 15 = .ok (.iload 4, 2) := dd_all DX0_levelsOf_0_ok 9 rfl
theorem dX0_levelsOf_17 : decode cX0_levelsOf 17 = .ok (.invokevirtual 81, 3) := dd_all DX0_levelsOf_0_ok 10 rfl
theorem dX0_levelsOf_20 : decode cX0_levelsOf 20 = .ok (.istore 5, 2) := dd_all DX0_levelsOf_0_ok 11 rfl
theorem dX0_levelsOf_22 : decode cX0_levelsOf 22 = .ok (.iload_n 3, 1) := dd_all DX0_levelsOf_0_ok 12 rfl
theorem dX0_levelsOf_23 : decode cX0_levelsOf 23 = .ok (.aload_n 0, 1) := dd_all DX0_levelsOf_0_ok 13 rfl
theorem dX0_levelsOf_24 : decode cX0_levelsOf 24 = .ok (.getfield 12, 3) := dd_all DX0_levelsOf_0_ok 14 rfl
theorem dX0_levelsOf_27 : decode cX0_levelsOf 27 = .ok (.getfield 173, 3) := dd_all DX0_levelsOf_0_ok 15 rfl
theorem dX0_levelsOf_30 : decode cX0_levelsOf 30 = .ok (.iload 5, 2) := dd_all DX0_levelsOf_0_ok 16 rfl
theorem dX0_levelsOf_32 : decode cX0_levelsOf 32 = .ok (.invokestatic 100, 3) := dd_all DX0_levelsOf_0_ok 17 rfl
theorem dX0_levelsOf_35 : decode cX0_levelsOf 35 = .ok (.iload_n 2, 1) := dd_all DX0_levelsOf_0_ok 18 rfl
theorem dX0_levelsOf_36 : decode cX0_levelsOf 36 = .ok (.if_icmp .ne 18, 3) := dd_all DX0_levelsOf_0_ok 19 rfl
theorem dX0_levelsOf_39 : decode cX0_levelsOf 39 = .ok (.aload_n 0, 1) := dd_all DX0_levelsOf_0_ok 20 rfl
theorem dX0_levelsOf_40 : decode cX0_levelsOf 40 = .ok (.getfield 12, 3) := dd_all DX0_levelsOf_0_ok 21 rfl
theorem dX0_levelsOf_43 : decode cX0_levelsOf 43 = .ok (.getfield 116, 3) := dd_all DX0_levelsOf_0_ok 22 rfl
theorem dX0_levelsOf_46 : decode cX0_levelsOf 46 = .ok (.iload 5, 2) := dd_all DX0_levelsOf_0_ok 23 rfl
theorem dX0_levelsOf_48 : decode cX0_levelsOf 48 = .ok (.invokestatic 100, 3) := dd_all DX0_levelsOf_0_ok 24 rfl
theorem dX0_levelsOf_51 : decode cX0_levelsOf 51 = .ok (.goto 4, 3) := dd_all DX0_levelsOf_0_ok 25 rfl
theorem dX0_levelsOf_54 : decode cX0_levelsOf 54 = .ok (.iconst 0, 1) := dd_all DX0_levelsOf_0_ok 26 rfl
theorem dX0_levelsOf_55 : decode cX0_levelsOf 55 = .ok (.iadd, 1) := dd_all DX0_levelsOf_0_ok 27 rfl
theorem dX0_levelsOf_56 : decode cX0_levelsOf 56 = .ok (.istore_n 3, 1) := dd_all DX0_levelsOf_0_ok 28 rfl
theorem dX0_levelsOf_57 : decode cX0_levelsOf 57 = .ok (.iinc 4 1, 3) := dd_all DX0_levelsOf_0_ok 29 rfl
theorem dX0_levelsOf_60 : decode cX0_levelsOf 60 = .ok (.goto (-55), 3) := dd_all DX0_levelsOf_0_ok 30 rfl
theorem dX0_levelsOf_63 : decode cX0_levelsOf 63 = .ok (.iload_n 3, 1) := dd_all DX0_levelsOf_0_ok 31 rfl
theorem dX0_levelsOf_64 : decode cX0_levelsOf 64 = .ok (.ireturn, 1) := dd_all DX0_levelsOf_0_ok 32 rfl
def DX0_howManyOf_0 : List (Nat × Instr × Nat) := [(0, .iconst 0, 1), (1, .istore_n 3, 1), (2, .iconst 0, 1), (3, .istore 4, 2), (5, .iload 4, 2), (7, .aload_n 1, 1), (8, .getfield 78, 3), (11, .if_icmp .ge 37, 3), (14, .iload_n 3, 1), (15, .aload_n 0, 1), (16, .getfield 12, 3), (19, .getfield 173, 3), (22, .aload_n 1, 1), (23, .iload 4, 2), (25, .invokevirtual 81, 3), (28, .invokestatic 100, 3), (31, .iload_n 2, 1), (32, .if_icmp .ne 7, 3), (35, .iconst 1, 1), (36, .goto 4, 3), (39, .iconst 0, 1), (40, .iadd, 1), (41, .istore_n 3, 1), (42, .iinc 4 1, 3), (45, .goto (-40), 3), (48, .iload_n 3, 1), (49, .ireturn, 1)]
theorem DX0_howManyOf_0_ok : ∀ q ∈ DX0_howManyOf_0, decode cX0_howManyOf q.1 = .ok (q.2.1, q.2.2) := by decide +kernel
theorem dX0_howManyOf_0 : decode cX0_howManyOf 0 = .ok (.iconst 0, 1) := dd_all DX0_howManyOf_0_ok 0 rfl
theorem dX0_howManyOf_1 : decode cX0_howManyOf 1 = .ok (.istore_n 3, 1) := dd_all DX0_howManyOf_0_ok 1 rfl
theorem dX0_howManyOf_2 : decode cX0_howManyOf 2 = .ok (.iconst 0, 1) := dd_all DX0_howManyOf_0_ok 2 rfl
theorem dX0_howManyOf_3 : decode cX0_howManyOf 3 = .ok (.istore 4, 2) := dd_all DX0_howManyOf_0_ok 3 rfl
theorem dX0_howManyOf_5 : decode cX0_howManyOf 5 = .ok (.iload 4, 2) := dd_all DX0_howManyOf_0_ok 4 rfl
theorem dX0_howManyOf_7 : decode cX0_howManyOf 7 = .ok (.aload_n 1, 1) := dd_all DX0_howManyOf_0_ok 5 rfl
theorem dX0_howManyOf_8 : decode cX0_howManyOf 8 = .ok (.getfield 78, 3) := dd_all DX0_howManyOf_0_ok 6 rfl
theorem dX0_howManyOf_11 : decode cX0_howManyOf 11 = .ok (.if_icmp .ge 37, 3) := dd_all DX0_howManyOf_0_ok 7 rfl
theorem dX0_howManyOf_14 : decode cX0_howManyOf 14 = .ok (.iload_n 3, 1) := dd_all DX0_howManyOf_0_ok 8 rfl
theorem dX0_howManyOf_15 : decode cX0_howManyOf 15 = .ok (.aload_n 0, 1) := dd_all DX0_howManyOf_0_ok 9 rfl
theorem dX0_howManyOf_16 : decode cX0_howManyOf 16 = .ok (.getfield 12, 3) := dd_all DX0_howManyOf_0_ok 10 rfl
theorem dX0_howManyOf_19 : decode cX0_howManyOf 19 = .ok (.getfield 173, 3) := dd_all DX0_howManyOf_0_ok 11 rfl
theorem dX0_howManyOf_22 : decode cX0_howManyOf 22 = .ok (.aload_n 1, 1) := dd_all DX0_howManyOf_0_ok 12 rfl
theorem dX0_howManyOf_23 : decode cX0_howManyOf 23 = .ok (.iload 4, 2) := dd_all DX0_howManyOf_0_ok 13 rfl
theorem dX0_howManyOf_25 : decode cX0_howManyOf 25 = .ok (.invokevirtual 81, 3) := dd_all DX0_howManyOf_0_ok 14 rfl
theorem dX0_howManyOf_28 : decode cX0_howManyOf 28 = .ok (.invokestatic 100, 3) := dd_all DX0_howManyOf_0_ok 15 rfl
theorem dX0_howManyOf_31 : decode cX0_howManyOf 31 = .ok (.iload_n 2, 1) := dd_all DX0_howManyOf_0_ok 16 rfl
theorem dX0_howManyOf_32 : decode cX0_howManyOf 32 = .ok (.if_icmp .ne 7, 3) := dd_all DX0_howManyOf_0_ok 17 rfl
theorem dX0_howManyOf_35 : decode cX0_howManyOf 35 = .ok (.iconst 1, 1) := dd_all DX0_howManyOf_0_ok 18 rfl
theorem dX0_howManyOf_36 : decode cX0_howManyOf 36 = .ok (.goto 4, 3) := dd_all DX0_howManyOf_0_ok 19 rfl
theorem dX0_howManyOf_39 : decode cX0_howManyOf 39 = .ok (.iconst 0, 1) := dd_all DX0_howManyOf_0_ok 20 rfl
theorem dX0_howManyOf_40 : decode cX0_howManyOf 40 = .ok (.iadd, 1) := dd_all DX0_howManyOf_0_ok 21 rfl
theorem dX0_howManyOf_41 : decode cX0_howManyOf 41 = .ok (.istore_n 3, 1) := dd_all DX0_howManyOf_0_ok 22 rfl
theorem dX0_howManyOf_42 : decode cX0_howManyOf 42 = .ok (.iinc 4 1, 3) := dd_all DX0_howManyOf_0_ok 23 rfl
theorem dX0_howManyOf_45 : decode cX0_howManyOf 45 = .ok (.goto (-40), 3) := dd_all DX0_howManyOf_0_ok 24 rfl
theorem dX0_howManyOf_48 : decode cX0_howManyOf 48 = .ok (.iload_n 3, 1) := dd_all DX0_howManyOf_0_ok 25 rfl
theorem dX0_howManyOf_49 : decode cX0_howManyOf 49 = .ok (.ireturn, 1) := dd_all DX0_howManyOf_0_ok 26 rfl
def DX0_heardOfNote_0 : List (Nat × Instr × Nat) := [(0, .aload_n 0, 1), (1, .getfield 33, 3), (4, .iconst 2, 1), (5, .invokestatic 100, 3), (8, .istore_n 3, 1), (9, .aload_n 0, 1), (10, .getfield 12, 3), (13, .getfield 116, 3), (16, .iload_n 1, 1), (17, .invokestatic 100, 3), (20, .istore 4, 2), (22, .iload_n 2, 1), (23, .iload_n 3, 1), (24, .if_icmp .le 7, 3), (27, .iload_n 2, 1), (28, .ifCond .gt 8, 3), (31, .iload 4, 2), (33, .goto 9, 3), (36, .iload 4, 2), (38, .iload_n 3, 1), (39, .imul, 1), (40, .iload_n 2, 1), (41, .idiv, 1), (42, .ireturn, 1)]
theorem DX0_heardOfNote_0_ok : ∀ q ∈ DX0_heardOfNote_0, decode cX0_heardOfNote q.1 = .ok (q.2.1, q.2.2) := by decide +kernel
theorem dX0_heardOfNote_0 : decode cX0_heardOfNote 0 = .ok (.aload_n 0, 1) := dd_all DX0_heardOfNote_0_ok 0 rfl
theorem dX0_heardOfNote_1 : decode cX0_heardOfNote 1 = .ok (.getfield 33, 3) := dd_all DX0_heardOfNote_0_ok 1 rfl
theorem dX0_heardOfNote_4 : decode cX0_heardOfNote 4 = .ok (.iconst 2, 1) := dd_all DX0_heardOfNote_0_ok 2 rfl
theorem dX0_heardOfNote_5 : decode cX0_heardOfNote 5 = .ok (.invokestatic 100, 3) := dd_all DX0_heardOfNote_0_ok 3 rfl
theorem dX0_heardOfNote_8 : decode cX0_heardOfNote 8 = .ok (.istore_n 3, 1) := dd_all DX0_heardOfNote_0_ok 4 rfl
theorem dX0_heardOfNote_9 : decode cX0_heardOfNote 9 = .ok (.aload_n 0, 1) := dd_all DX0_heardOfNote_0_ok 5 rfl
theorem dX0_heardOfNote_10 : decode cX0_heardOfNote 10 = .ok (.getfield 12, 3) := dd_all DX0_heardOfNote_0_ok 6 rfl
theorem dX0_heardOfNote_13 : decode cX0_heardOfNote 13 = .ok (.getfield 116, 3) := dd_all DX0_heardOfNote_0_ok 7 rfl
theorem dX0_heardOfNote_16 : decode cX0_heardOfNote 16 = .ok (.iload_n 1, 1) := dd_all DX0_heardOfNote_0_ok 8 rfl
theorem dX0_heardOfNote_17 : decode cX0_heardOfNote 17 = .ok (.invokestatic 100, 3) := dd_all DX0_heardOfNote_0_ok 9 rfl
theorem dX0_heardOfNote_20 : decode cX0_heardOfNote 20 = .ok (.istore 4, 2) := dd_all DX0_heardOfNote_0_ok 10 rfl
theorem dX0_heardOfNote_22 : decode cX0_heardOfNote 22 = .ok (.iload_n 2, 1) := dd_all DX0_heardOfNote_0_ok 11 rfl
theorem dX0_heardOfNote_23 : decode cX0_heardOfNote 23 = .ok (.iload_n 3, 1) := dd_all DX0_heardOfNote_0_ok 12 rfl
theorem dX0_heardOfNote_24 : decode cX0_heardOfNote 24 = .ok (.if_icmp .le 7, 3) := dd_all DX0_heardOfNote_0_ok 13 rfl
theorem dX0_heardOfNote_27 : decode cX0_heardOfNote 27 = .ok (.iload_n 2, 1) := dd_all DX0_heardOfNote_0_ok 14 rfl
theorem dX0_heardOfNote_28 : decode cX0_heardOfNote 28 = .ok (.ifCond .gt 8, 3) := dd_all DX0_heardOfNote_0_ok 15 rfl
theorem dX0_heardOfNote_31 : decode cX0_heardOfNote 31 = .ok (.iload 4, 2) := dd_all DX0_heardOfNote_0_ok 16 rfl
theorem dX0_heardOfNote_33 : decode cX0_heardOfNote 33 = .ok (.goto 9, 3) := dd_all DX0_heardOfNote_0_ok 17 rfl
theorem dX0_heardOfNote_36 : decode cX0_heardOfNote 36 = .ok (.iload 4, 2) := dd_all DX0_heardOfNote_0_ok 18 rfl
theorem dX0_heardOfNote_38 : decode cX0_heardOfNote 38 = .ok (.iload_n 3, 1) := dd_all DX0_heardOfNote_0_ok 19 rfl
theorem dX0_heardOfNote_39 : decode cX0_heardOfNote 39 = .ok (.imul, 1) := dd_all DX0_heardOfNote_0_ok 20 rfl
theorem dX0_heardOfNote_40 : decode cX0_heardOfNote 40 = .ok (.iload_n 2, 1) := dd_all DX0_heardOfNote_0_ok 21 rfl
theorem dX0_heardOfNote_41 : decode cX0_heardOfNote 41 = .ok (.idiv, 1) := dd_all DX0_heardOfNote_0_ok 22 rfl
theorem dX0_heardOfNote_42 : decode cX0_heardOfNote 42 = .ok (.ireturn, 1) := dd_all DX0_heardOfNote_0_ok 23 rfl
def DX0_heardOfLine_0 : List (Nat × Instr × Nat) := [(0, .iconst 0, 1), (1, .istore 4, 2), (3, .iconst 0, 1), (4, .istore 5, 2), (6, .iload 5, 2), (8, .aload_n 1, 1), (9, .getfield 78, 3), (12, .if_icmp .ge 49, 3), (15, .aload_n 1, 1), (16, .iload 5, 2), (18, .invokevirtual 81, 3), (21, .istore 6, 2), (23, .iload 4, 2), (25, .aload_n 0, 1), (26, .getfield 12, 3), (29, .getfield 173, 3), (32, .iload 6, 2), (34, .invokestatic 100, 3), (37, .iload_n 2, 1), (38, .if_icmp .ne 13, 3), (41, .aload_n 0, 1), (42, .iload 6, 2), (44, .iload_n 3, 1), (45, .invokevirtual 189, 3), (48, .goto 4, 3), (51, .iconst 0, 1), (52, .iadd, 1), (53, .istore 4, 2), (55, .iinc 5 1, 3), (58, .goto (-52), 3), (61, .iload 4, 2), (63, .ireturn, 1)]
theorem DX0_heardOfLine_0_ok : ∀ q ∈ DX0_heardOfLine_0, decode cX0_heardOfLine q.1 = .ok (q.2.1, q.2.2) := by decide +kernel
theorem dX0_heardOfLine_0 : decode cX0_heardOfLine 0 = .ok (.iconst 0, 1) := dd_all DX0_heardOfLine_0_ok 0 rfl
theorem dX0_heardOfLine_1 : decode cX0_heardOfLine 1 = .ok (.istore 4, 2) := dd_all DX0_heardOfLine_0_ok 1 rfl
theorem dX0_heardOfLine_3 : decode cX0_heardOfLine 3 = .ok (.iconst 0, 1) := dd_all DX0_heardOfLine_0_ok 2 rfl
theorem dX0_heardOfLine_4 : decode cX0_heardOfLine 4 = .ok (.istore 5, 2) := dd_all DX0_heardOfLine_0_ok 3 rfl
theorem dX0_heardOfLine_6 : decode cX0_heardOfLine 6 = .ok (.iload 5, 2) := dd_all DX0_heardOfLine_0_ok 4 rfl
theorem dX0_heardOfLine_8 : decode cX0_heardOfLine 8 = .ok (.aload_n 1, 1) := dd_all DX0_heardOfLine_0_ok 5 rfl
theorem dX0_heardOfLine_9 : decode cX0_heardOfLine 9 = .ok (.getfield 78, 3) := dd_all DX0_heardOfLine_0_ok 6 rfl
theorem dX0_heardOfLine_12 : decode cX0_heardOfLine 12 = .ok (.if_icmp .ge 49, 3) := dd_all DX0_heardOfLine_0_ok 7 rfl
theorem dX0_heardOfLine_15 : decode cX0_heardOfLine 15 = .ok (.aload_n 1, 1) := dd_all DX0_heardOfLine_0_ok 8 rfl
theorem dX0_heardOfLine_16 : decode cX0_heardOfLine 16 = .ok (.iload 5, 2) := dd_all DX0_heardOfLine_0_ok 9 rfl
theorem dX0_heardOfLine_18 : decode cX0_heardOfLine 18 = .ok (.invokevirtual 81, 3) := dd_all DX0_heardOfLine_0_ok 10 rfl
theorem dX0_heardOfLine_21 : decode cX0_heardOfLine 21 = .ok (.istore 6, 2) := dd_all DX0_heardOfLine_0_ok 11 rfl
theorem dX0_heardOfLine_23 : decode cX0_heardOfLine 23 = .ok (.iload 4, 2) := dd_all DX0_heardOfLine_0_ok 12 rfl
theorem dX0_heardOfLine_25 : decode cX0_heardOfLine 25 = .ok (.aload_n 0, 1) := dd_all DX0_heardOfLine_0_ok 13 rfl
theorem dX0_heardOfLine_26 : decode cX0_heardOfLine 26 = .ok (.getfield 12, 3) := dd_all DX0_heardOfLine_0_ok 14 rfl
theorem dX0_heardOfLine_29 : decode cX0_heardOfLine 29 = .ok (.getfield 173, 3) := dd_all DX0_heardOfLine_0_ok 15 rfl
theorem dX0_heardOfLine_32 : decode cX0_heardOfLine 32 = .ok (.iload 6, 2) := dd_all DX0_heardOfLine_0_ok 16 rfl
theorem dX0_heardOfLine_34 : decode cX0_heardOfLine 34 = .ok (.invokestatic 100, 3) := dd_all DX0_heardOfLine_0_ok 17 rfl
theorem dX0_heardOfLine_37 : decode cX0_heardOfLine 37 = .ok (.iload_n 2, 1) := dd_all DX0_heardOfLine_0_ok 18 rfl
theorem dX0_heardOfLine_38 : decode cX0_heardOfLine 38 = .ok (.if_icmp .ne 13, 3) := dd_all DX0_heardOfLine_0_ok 19 rfl
theorem dX0_heardOfLine_41 : decode cX0_heardOfLine 41 = .ok (.aload_n 0, 1) := dd_all DX0_heardOfLine_0_ok 20 rfl
theorem dX0_heardOfLine_42 : decode cX0_heardOfLine 42 = .ok (.iload 6, 2) := dd_all DX0_heardOfLine_0_ok 21 rfl
theorem dX0_heardOfLine_44 : decode cX0_heardOfLine 44 = .ok (.iload_n 3, 1) := dd_all DX0_heardOfLine_0_ok 22 rfl
theorem dX0_heardOfLine_45 : decode cX0_heardOfLine 45 = .ok (.invokevirtual 189, 3) := dd_all DX0_heardOfLine_0_ok 23 rfl
theorem dX0_heardOfLine_48 : decode cX0_heardOfLine 48 = .ok (.goto 4, 3) := dd_all DX0_heardOfLine_0_ok 24 rfl
theorem dX0_heardOfLine_51 : decode cX0_heardOfLine 51 = .ok (.iconst 0, 1) := dd_all DX0_heardOfLine_0_ok 25 rfl
theorem dX0_heardOfLine_52 : decode cX0_heardOfLine 52 = .ok (.iadd, 1) := dd_all DX0_heardOfLine_0_ok 26 rfl
theorem dX0_heardOfLine_53 : decode cX0_heardOfLine 53 = .ok (.istore 4, 2) := dd_all DX0_heardOfLine_0_ok 27 rfl
theorem dX0_heardOfLine_55 : decode cX0_heardOfLine 55 = .ok (.iinc 5 1, 3) := dd_all DX0_heardOfLine_0_ok 28 rfl
theorem dX0_heardOfLine_58 : decode cX0_heardOfLine 58 = .ok (.goto (-52), 3) := dd_all DX0_heardOfLine_0_ok 29 rfl
theorem dX0_heardOfLine_61 : decode cX0_heardOfLine 61 = .ok (.iload 4, 2) := dd_all DX0_heardOfLine_0_ok 30 rfl
theorem dX0_heardOfLine_63 : decode cX0_heardOfLine 63 = .ok (.ireturn, 1) := dd_all DX0_heardOfLine_0_ok 31 rfl
def DX0_heardOfPart_0 : List (Nat × Instr × Nat) := [(0, .aload_n 0, 1), (1, .invokevirtual 192, 3), (4, .istore_n 2, 1), (5, .aload_n 0, 1), (6, .aload_n 0, 1), (7, .getfield 23, 3), (10, .iload_n 1, 1), (11, .iload_n 2, 1), (12, .invokevirtual 195, 3), (15, .aload_n 0, 1), (16, .aload_n 0, 1), (17, .getfield 27, 3), (20, .iload_n 1, 1), (21, .iload_n 2, 1), (22, .invokevirtual 195, 3), (25, .iadd, 1), (26, .ireturn, 1)]
theorem DX0_heardOfPart_0_ok : ∀ q ∈ DX0_heardOfPart_0, decode cX0_heardOfPart q.1 = .ok (q.2.1, q.2.2) := by decide +kernel
theorem dX0_heardOfPart_0 : decode cX0_heardOfPart 0 = .ok (.aload_n 0, 1) := dd_all DX0_heardOfPart_0_ok 0 rfl
theorem dX0_heardOfPart_1 : decode cX0_heardOfPart 1 = .ok (.invokevirtual 192, 3) := dd_all DX0_heardOfPart_0_ok 1 rfl
theorem dX0_heardOfPart_4 : decode cX0_heardOfPart 4 = .ok (.istore_n 2, 1) := dd_all DX0_heardOfPart_0_ok 2 rfl
theorem dX0_heardOfPart_5 : decode cX0_heardOfPart 5 = .ok (.aload_n 0, 1) := dd_all DX0_heardOfPart_0_ok 3 rfl
theorem dX0_heardOfPart_6 : decode cX0_heardOfPart 6 = .ok (.aload_n 0, 1) := dd_all DX0_heardOfPart_0_ok 4 rfl
theorem dX0_heardOfPart_7 : decode cX0_heardOfPart 7 = .ok (.getfield 23, 3) := dd_all DX0_heardOfPart_0_ok 5 rfl
theorem dX0_heardOfPart_10 : decode cX0_heardOfPart 10 = .ok (.iload_n 1, 1) := dd_all DX0_heardOfPart_0_ok 6 rfl
theorem dX0_heardOfPart_11 : decode cX0_heardOfPart 11 = .ok (.iload_n 2, 1) := dd_all DX0_heardOfPart_0_ok 7 rfl
theorem dX0_heardOfPart_12 : decode cX0_heardOfPart 12 = .ok (.invokevirtual 195, 3) := dd_all DX0_heardOfPart_0_ok 8 rfl
theorem dX0_heardOfPart_15 : decode cX0_heardOfPart 15 = .ok (.aload_n 0, 1) := dd_all DX0_heardOfPart_0_ok 9 rfl
theorem dX0_heardOfPart_16 : decode cX0_heardOfPart 16 = .ok (.aload_n 0, 1) := dd_all DX0_heardOfPart_0_ok 10 rfl
theorem dX0_heardOfPart_17 : decode cX0_heardOfPart 17 = .ok (.getfield 27, 3) := dd_all DX0_heardOfPart_0_ok 11 rfl
theorem dX0_heardOfPart_20 : decode cX0_heardOfPart 20 = .ok (.iload_n 1, 1) := dd_all DX0_heardOfPart_0_ok 12 rfl
theorem dX0_heardOfPart_21 : decode cX0_heardOfPart 21 = .ok (.iload_n 2, 1) := dd_all DX0_heardOfPart_0_ok 13 rfl
theorem dX0_heardOfPart_22 : decode cX0_heardOfPart 22 = .ok (.invokevirtual 195, 3) := dd_all DX0_heardOfPart_0_ok 14 rfl
theorem dX0_heardOfPart_25 : decode cX0_heardOfPart 25 = .ok (.iadd, 1) := dd_all DX0_heardOfPart_0_ok 15 rfl
theorem dX0_heardOfPart_26 : decode cX0_heardOfPart 26 = .ok (.ireturn, 1) := dd_all DX0_heardOfPart_0_ok 16 rfl
def DX0_heardOfAll_0 : List (Nat × Instr × Nat) := [(0, .iconst 0, 1), (1, .istore_n 1, 1), (2, .iconst 0, 1), (3, .istore_n 2, 1), (4, .iload_n 2, 1), (5, .iconst 4, 1), (6, .if_icmp .ge 17, 3), (9, .iload_n 1, 1), (10, .aload_n 0, 1), (11, .iload_n 2, 1), (12, .invokevirtual 198, 3), (15, .iadd, 1), (16, .istore_n 1, 1), (17, .iinc 2 1, 3), (20, .goto (-16), 3), (23, .iload_n 1, 1), (24, .ireturn, 1)]
theorem DX0_heardOfAll_0_ok : ∀ q ∈ DX0_heardOfAll_0, decode cX0_heardOfAll q.1 = .ok (q.2.1, q.2.2) := by decide +kernel
theorem dX0_heardOfAll_0 : decode cX0_heardOfAll 0 = .ok (.iconst 0, 1) := dd_all DX0_heardOfAll_0_ok 0 rfl
theorem dX0_heardOfAll_1 : decode cX0_heardOfAll 1 = .ok (.istore_n 1, 1) := dd_all DX0_heardOfAll_0_ok 1 rfl
theorem dX0_heardOfAll_2 : decode cX0_heardOfAll 2 = .ok (.iconst 0, 1) := dd_all DX0_heardOfAll_0_ok 2 rfl
theorem dX0_heardOfAll_3 : decode cX0_heardOfAll 3 = .ok (.istore_n 2, 1) := dd_all DX0_heardOfAll_0_ok 3 rfl
theorem dX0_heardOfAll_4 : decode cX0_heardOfAll 4 = .ok (.iload_n 2, 1) := dd_all DX0_heardOfAll_0_ok 4 rfl
theorem dX0_heardOfAll_5 : decode cX0_heardOfAll 5 = .ok (.iconst 4, 1) := dd_all DX0_heardOfAll_0_ok 5 rfl
theorem dX0_heardOfAll_6 : decode cX0_heardOfAll 6 = .ok (.if_icmp .ge 17, 3) := dd_all DX0_heardOfAll_0_ok 6 rfl
theorem dX0_heardOfAll_9 : decode cX0_heardOfAll 9 = .ok (.iload_n 1, 1) := dd_all DX0_heardOfAll_0_ok 7 rfl
theorem dX0_heardOfAll_10 : decode cX0_heardOfAll 10 = .ok (.aload_n 0, 1) := dd_all DX0_heardOfAll_0_ok 8 rfl
theorem dX0_heardOfAll_11 : decode cX0_heardOfAll 11 = .ok (.iload_n 2, 1) := dd_all DX0_heardOfAll_0_ok 9 rfl
theorem dX0_heardOfAll_12 : decode cX0_heardOfAll 12 = .ok (.invokevirtual 198, 3) := dd_all DX0_heardOfAll_0_ok 10 rfl
theorem dX0_heardOfAll_15 : decode cX0_heardOfAll 15 = .ok (.iadd, 1) := dd_all DX0_heardOfAll_0_ok 11 rfl
theorem dX0_heardOfAll_16 : decode cX0_heardOfAll 16 = .ok (.istore_n 1, 1) := dd_all DX0_heardOfAll_0_ok 12 rfl
theorem dX0_heardOfAll_17 : decode cX0_heardOfAll 17 = .ok (.iinc 2 1, 3) := dd_all DX0_heardOfAll_0_ok 13 rfl
theorem dX0_heardOfAll_20 : decode cX0_heardOfAll 20 = .ok (.goto (-16), 3) := dd_all DX0_heardOfAll_0_ok 14 rfl
theorem dX0_heardOfAll_23 : decode cX0_heardOfAll 23 = .ok (.iload_n 1, 1) := dd_all DX0_heardOfAll_0_ok 15 rfl
theorem dX0_heardOfAll_24 : decode cX0_heardOfAll 24 = .ok (.ireturn, 1) := dd_all DX0_heardOfAll_0_ok 16 rfl
def DX1_init_0 : List (Nat × Instr × Nat) := [(0, .aload_n 0, 1), (1, .invokespecial 3, 3), (4, .aload_n 0, 1), (5, .bipush 60, 2), (7, .newarray .char, 2), (9, .putfield 9, 3), (12, .aload_n 1, 1), (13, .invokevirtual 15, 3), (16, .bipush 60, 2), (18, .invokestatic 21, 3), (21, .istore_n 2, 1), (22, .iconst 0, 1), (23, .istore_n 3, 1), (24, .iload_n 3, 1), (25, .iload_n 2, 1), (26, .if_icmp .ge 20, 3), (29, .aload_n 0, 1), (30, .getfield 9, 3), (33, .iload_n 3, 1), (34, .aload_n 1, 1), (35, .iload_n 3, 1), (36, .invokevirtual 27, 3), (39, .castore, 1), (40, .iinc 3 1, 3), (43, .goto (-19), 3), (46, .aload_n 0, 1), (47, .iload_n 2, 1), (48, .putfield 31, 3), (51, .return_, 1)]
theorem DX1_init_0_ok : ∀ q ∈ DX1_init_0, decode cX1_init q.1 = .ok (q.2.1, q.2.2) := by decide +kernel
theorem dX1_init_0 : decode cX1_init 0 = .ok (.aload_n 0, 1) := dd_all DX1_init_0_ok 0 rfl
theorem dX1_init_1 : decode cX1_init 1 = .ok (.invokespecial 3, 3) := dd_all DX1_init_0_ok 1 rfl
theorem dX1_init_4 : decode cX1_init 4 = .ok (.aload_n 0, 1) := dd_all DX1_init_0_ok 2 rfl
theorem dX1_init_5 : decode cX1_init 5 = .ok (.bipush 60, 2) := dd_all DX1_init_0_ok 3 rfl
theorem dX1_init_7 : decode cX1_init 7 = .ok (.newarray .char, 2) := dd_all DX1_init_0_ok 4 rfl
theorem dX1_init_9 : decode cX1_init 9 = .ok (.putfield 9, 3) := dd_all DX1_init_0_ok 5 rfl
theorem dX1_init_12 : decode cX1_init 12 = .ok (.aload_n 1, 1) := dd_all DX1_init_0_ok 6 rfl
theorem dX1_init_13 : decode cX1_init 13 = .ok (.invokevirtual 15, 3) := dd_all DX1_init_0_ok 7 rfl
theorem dX1_init_16 : decode cX1_init 16 = .ok (.bipush 60, 2) := dd_all DX1_init_0_ok 8 rfl
theorem dX1_init_18 : decode cX1_init 18 = .ok (.invokestatic 21, 3) := dd_all DX1_init_0_ok 9 rfl
theorem dX1_init_21 : decode cX1_init 21 = .ok (.istore_n 2, 1) := dd_all DX1_init_0_ok 10 rfl
theorem dX1_init_22 : decode cX1_init 22 = .ok (.iconst 0, 1) := dd_all DX1_init_0_ok 11 rfl
theorem dX1_init_23 : decode cX1_init 23 = .ok (.istore_n 3, 1) := dd_all DX1_init_0_ok 12 rfl
theorem dX1_init_24 : decode cX1_init 24 = .ok (.iload_n 3, 1) := dd_all DX1_init_0_ok 13 rfl
theorem dX1_init_25 : decode cX1_init 25 = .ok (.iload_n 2, 1) := dd_all DX1_init_0_ok 14 rfl
theorem dX1_init_26 : decode cX1_init 26 = .ok (.if_icmp .ge 20, 3) := dd_all DX1_init_0_ok 15 rfl
theorem dX1_init_29 : decode cX1_init 29 = .ok (.aload_n 0, 1) := dd_all DX1_init_0_ok 16 rfl
theorem dX1_init_30 : decode cX1_init 30 = .ok (.getfield 9, 3) := dd_all DX1_init_0_ok 17 rfl
theorem dX1_init_33 : decode cX1_init 33 = .ok (.iload_n 3, 1) := dd_all DX1_init_0_ok 18 rfl
theorem dX1_init_34 : decode cX1_init 34 = .ok (.aload_n 1, 1) := dd_all DX1_init_0_ok 19 rfl
theorem dX1_init_35 : decode cX1_init 35 = .ok (.iload_n 3, 1) := dd_all DX1_init_0_ok 20 rfl
theorem dX1_init_36 : decode cX1_init 36 = .ok (.invokevirtual 27, 3) := dd_all DX1_init_0_ok 21 rfl
theorem dX1_init_39 : decode cX1_init 39 = .ok (.castore, 1) := dd_all DX1_init_0_ok 22 rfl
theorem dX1_init_40 : decode cX1_init 40 = .ok (.iinc 3 1, 3) := dd_all DX1_init_0_ok 23 rfl
theorem dX1_init_43 : decode cX1_init 43 = .ok (.goto (-19), 3) := dd_all DX1_init_0_ok 24 rfl
theorem dX1_init_46 : decode cX1_init 46 = .ok (.aload_n 0, 1) := dd_all DX1_init_0_ok 25 rfl
theorem dX1_init_47 : decode cX1_init 47 = .ok (.iload_n 2, 1) := dd_all DX1_init_0_ok 26 rfl
theorem dX1_init_48 : decode cX1_init 48 = .ok (.putfield 31, 3) := dd_all DX1_init_0_ok 27 rfl
theorem dX1_init_51 : decode cX1_init 51 = .ok (.return_, 1) := dd_all DX1_init_0_ok 28 rfl
def DX1_signAt_0 : List (Nat × Instr × Nat) := [(0, .iload_n 1, 1), (1, .ifCond .lt 29, 3), (4, .iload_n 1, 1), (5, .aload_n 0, 1), (6, .getfield 31, 3), (9, .if_icmp .ge 21, 3), (12, .iload_n 1, 1), (13, .aload_n 0, 1), (14, .getfield 9, 3), (17, .arraylength, 1), (18, .if_icmp .ge 12, 3), (21, .aload_n 0, 1), (22, .getfield 9, 3), (25, .iload_n 1, 1), (26, .caload, 1), (27, .goto 4, 3), (30, .iconst 0, 1), (31, .ireturn, 1)]
theorem DX1_signAt_0_ok : ∀ q ∈ DX1_signAt_0, decode cX1_signAt q.1 = .ok (q.2.1, q.2.2) := by decide +kernel
theorem dX1_signAt_0 : decode cX1_signAt 0 = .ok (.iload_n 1, 1) := dd_all DX1_signAt_0_ok 0 rfl
theorem dX1_signAt_1 : decode cX1_signAt 1 = .ok (.ifCond .lt 29, 3) := dd_all DX1_signAt_0_ok 1 rfl
theorem dX1_signAt_4 : decode cX1_signAt 4 = .ok (.iload_n 1, 1) := dd_all DX1_signAt_0_ok 2 rfl
theorem dX1_signAt_5 : decode cX1_signAt 5 = .ok (.aload_n 0, 1) := dd_all DX1_signAt_0_ok 3 rfl
theorem dX1_signAt_6 : decode cX1_signAt 6 = .ok (.getfield 31, 3) := dd_all DX1_signAt_0_ok 4 rfl
theorem dX1_signAt_9 : decode cX1_signAt 9 = .ok (.if_icmp .ge 21, 3) := dd_all DX1_signAt_0_ok 5 rfl
theorem dX1_signAt_12 : decode cX1_signAt 12 = .ok (.iload_n 1, 1) := dd_all DX1_signAt_0_ok 6 rfl
theorem dX1_signAt_13 : decode cX1_signAt 13 = .ok (.aload_n 0, 1) := dd_all DX1_signAt_0_ok 7 rfl
theorem dX1_signAt_14 : decode cX1_signAt 14 = .ok (.getfield 9, 3) := dd_all DX1_signAt_0_ok 8 rfl
theorem dX1_signAt_17 : decode cX1_signAt 17 = .ok (.arraylength, 1) := dd_all DX1_signAt_0_ok 9 rfl
theorem dX1_signAt_18 : decode cX1_signAt 18 = .ok (.if_icmp .ge 12, 3) := dd_all DX1_signAt_0_ok 10 rfl
theorem dX1_signAt_21 : decode cX1_signAt 21 = .ok (.aload_n 0, 1) := dd_all DX1_signAt_0_ok 11 rfl
theorem dX1_signAt_22 : decode cX1_signAt 22 = .ok (.getfield 9, 3) := dd_all DX1_signAt_0_ok 12 rfl
theorem dX1_signAt_25 : decode cX1_signAt 25 = .ok (.iload_n 1, 1) := dd_all DX1_signAt_0_ok 13 rfl
theorem dX1_signAt_26 : decode cX1_signAt 26 = .ok (.caload, 1) := dd_all DX1_signAt_0_ok 14 rfl
theorem dX1_signAt_27 : decode cX1_signAt 27 = .ok (.goto 4, 3) := dd_all DX1_signAt_0_ok 15 rfl
theorem dX1_signAt_30 : decode cX1_signAt 30 = .ok (.iconst 0, 1) := dd_all DX1_signAt_0_ok 16 rfl
theorem dX1_signAt_31 : decode cX1_signAt 31 = .ok (.ireturn, 1) := dd_all DX1_signAt_0_ok 17 rfl
def DX1_copyFrom_0 : List (Nat × Instr × Nat) := [(0, .aload_n 1, 1), (1, .getfield 31, 3), (4, .bipush 60, 2), (6, .invokestatic 21, 3), (9, .istore_n 2, 1), (10, .iconst 0, 1), (11, .istore_n 3, 1), (12, .iload_n 3, 1), (13, .iload_n 2, 1), (14, .if_icmp .ge 20, 3), (17, .aload_n 0, 1), (18, .getfield 9, 3), (21, .iload_n 3, 1), (22, .aload_n 1, 1), (23, .iload_n 3, 1), (24, .invokevirtual 34, 3), (27, .castore, 1), (28, .iinc 3 1, 3), (31, .goto (-19), 3), (34, .aload_n 0, 1), (35, .iload_n 2, 1), (36, .putfield 31, 3), (39, .return_, 1)]
theorem DX1_copyFrom_0_ok : ∀ q ∈ DX1_copyFrom_0, decode cX1_copyFrom q.1 = .ok (q.2.1, q.2.2) := by decide +kernel
theorem dX1_copyFrom_0 : decode cX1_copyFrom 0 = .ok (.aload_n 1, 1) := dd_all DX1_copyFrom_0_ok 0 rfl
theorem dX1_copyFrom_1 : decode cX1_copyFrom 1 = .ok (.getfield 31, 3) := dd_all DX1_copyFrom_0_ok 1 rfl
theorem dX1_copyFrom_4 : decode cX1_copyFrom 4 = .ok (.bipush 60, 2) := dd_all DX1_copyFrom_0_ok 2 rfl
theorem dX1_copyFrom_6 : decode cX1_copyFrom 6 = .ok (.invokestatic 21, 3) := dd_all DX1_copyFrom_0_ok 3 rfl
theorem dX1_copyFrom_9 : decode cX1_copyFrom 9 = .ok (.istore_n 2, 1) := dd_all DX1_copyFrom_0_ok 4 rfl
theorem dX1_copyFrom_10 : decode cX1_copyFrom 10 = .ok (.iconst 0, 1) := dd_all DX1_copyFrom_0_ok 5 rfl
theorem dX1_copyFrom_11 : decode cX1_copyFrom 11 = .ok (.istore_n 3, 1) := dd_all DX1_copyFrom_0_ok 6 rfl
theorem dX1_copyFrom_12 : decode cX1_copyFrom 12 = .ok (.iload_n 3, 1) := dd_all DX1_copyFrom_0_ok 7 rfl
theorem dX1_copyFrom_13 : decode cX1_copyFrom 13 = .ok (.iload_n 2, 1) := dd_all DX1_copyFrom_0_ok 8 rfl
theorem dX1_copyFrom_14 : decode cX1_copyFrom 14 = .ok (.if_icmp .ge 20, 3) := dd_all DX1_copyFrom_0_ok 9 rfl
theorem dX1_copyFrom_17 : decode cX1_copyFrom 17 = .ok (.aload_n 0, 1) := dd_all DX1_copyFrom_0_ok 10 rfl
theorem dX1_copyFrom_18 : decode cX1_copyFrom 18 = .ok (.getfield 9, 3) := dd_all DX1_copyFrom_0_ok 11 rfl
theorem dX1_copyFrom_21 : decode cX1_copyFrom 21 = .ok (.iload_n 3, 1) := dd_all DX1_copyFrom_0_ok 12 rfl
theorem dX1_copyFrom_22 : decode cX1_copyFrom 22 = .ok (.aload_n 1, 1) := dd_all DX1_copyFrom_0_ok 13 rfl
theorem dX1_copyFrom_23 : decode cX1_copyFrom 23 = .ok (.iload_n 3, 1) := dd_all DX1_copyFrom_0_ok 14 rfl
theorem dX1_copyFrom_24 : decode cX1_copyFrom 24 = .ok (.invokevirtual 34, 3) := dd_all DX1_copyFrom_0_ok 15 rfl
theorem dX1_copyFrom_27 : decode cX1_copyFrom 27 = .ok (.castore, 1) := dd_all DX1_copyFrom_0_ok 16 rfl
theorem dX1_copyFrom_28 : decode cX1_copyFrom 28 = .ok (.iinc 3 1, 3) := dd_all DX1_copyFrom_0_ok 17 rfl
theorem dX1_copyFrom_31 : decode cX1_copyFrom 31 = .ok (.goto (-19), 3) := dd_all DX1_copyFrom_0_ok 18 rfl
theorem dX1_copyFrom_34 : decode cX1_copyFrom 34 = .ok (.aload_n 0, 1) := dd_all DX1_copyFrom_0_ok 19 rfl
theorem dX1_copyFrom_35 : decode cX1_copyFrom 35 = .ok (.iload_n 2, 1) := dd_all DX1_copyFrom_0_ok 20 rfl
theorem dX1_copyFrom_36 : decode cX1_copyFrom 36 = .ok (.putfield 31, 3) := dd_all DX1_copyFrom_0_ok 21 rfl
theorem dX1_copyFrom_39 : decode cX1_copyFrom 39 = .ok (.return_, 1) := dd_all DX1_copyFrom_0_ok 22 rfl
def DX1_partNamed_0 : List (Nat × Instr × Nat) := [(0, .ldc 41, 2), (2, .iload_n 0, 1), (3, .invokevirtual 43, 3), (6, .ireturn, 1)]
theorem DX1_partNamed_0_ok : ∀ q ∈ DX1_partNamed_0, decode cX1_partNamed q.1 = .ok (q.2.1, q.2.2) := by decide +kernel
theorem dX1_partNamed_0 : decode cX1_partNamed 0 = .ok (.ldc 41, 2) := dd_all DX1_partNamed_0_ok 0 rfl
theorem dX1_partNamed_2 : decode cX1_partNamed 2 = .ok (.iload_n 0, 1) := dd_all DX1_partNamed_0_ok 1 rfl
theorem dX1_partNamed_3 : decode cX1_partNamed 3 = .ok (.invokevirtual 43, 3) := dd_all DX1_partNamed_0_ok 2 rfl
theorem dX1_partNamed_6 : decode cX1_partNamed 6 = .ok (.ireturn, 1) := dd_all DX1_partNamed_0_ok 3 rfl
def DX2_init_0 : List (Nat × Instr × Nat) := [(0, .aload_n 0, 1), (1, .invokespecial 3, 3), (4, .aload_n 0, 1), (5, .iconst 4, 1), (6, .anewarray 9, 3), (9, .putfield 11, 3), (12, .iconst 0, 1), (13, .istore_n 1, 1), (14, .iload_n 1, 1), (15, .aload_n 0, 1), (16, .getfield 11, 3), (19, .arraylength, 1), (20, .if_icmp .ge 22, 3), (23, .aload_n 0, 1), (24, .getfield 11, 3), (27, .iload_n 1, 1), (28, .new 9, 3), (31, .dup, 1), (32, .invokespecial 17, 3), (35, .aastore, 1), (36, .iinc 1 1, 3), (39, .goto (-25), 3), (42, .return_, 1)]
theorem DX2_init_0_ok : ∀ q ∈ DX2_init_0, decode cX2_init q.1 = .ok (q.2.1, q.2.2) := by decide +kernel
theorem dX2_init_0 : decode cX2_init 0 = .ok (.aload_n 0, 1) := dd_all DX2_init_0_ok 0 rfl
theorem dX2_init_1 : decode cX2_init 1 = .ok (.invokespecial 3, 3) := dd_all DX2_init_0_ok 1 rfl
theorem dX2_init_4 : decode cX2_init 4 = .ok (.aload_n 0, 1) := dd_all DX2_init_0_ok 2 rfl
theorem dX2_init_5 : decode cX2_init 5 = .ok (.iconst 4, 1) := dd_all DX2_init_0_ok 3 rfl
theorem dX2_init_6 : decode cX2_init 6 = .ok (.anewarray 9, 3) := dd_all DX2_init_0_ok 4 rfl
theorem dX2_init_9 : decode cX2_init 9 = .ok (.putfield 11, 3) := dd_all DX2_init_0_ok 5 rfl
theorem dX2_init_12 : decode cX2_init 12 = .ok (.iconst 0, 1) := dd_all DX2_init_0_ok 6 rfl
theorem dX2_init_13 : decode cX2_init 13 = .ok (.istore_n 1, 1) := dd_all DX2_init_0_ok 7 rfl
theorem dX2_init_14 : decode cX2_init 14 = .ok (.iload_n 1, 1) := dd_all DX2_init_0_ok 8 rfl
theorem dX2_init_15 : decode cX2_init 15 = .ok (.aload_n 0, 1) := dd_all DX2_init_0_ok 9 rfl
theorem dX2_init_16 : decode cX2_init 16 = .ok (.getfield 11, 3) := dd_all DX2_init_0_ok 10 rfl
theorem dX2_init_19 : decode cX2_init 19 = .ok (.arraylength, 1) := dd_all DX2_init_0_ok 11 rfl
theorem dX2_init_20 : decode cX2_init 20 = .ok (.if_icmp .ge 22, 3) := dd_all DX2_init_0_ok 12 rfl
theorem dX2_init_23 : decode cX2_init 23 = .ok (.aload_n 0, 1) := dd_all DX2_init_0_ok 13 rfl
theorem dX2_init_24 : decode cX2_init 24 = .ok (.getfield 11, 3) := dd_all DX2_init_0_ok 14 rfl
theorem dX2_init_27 : decode cX2_init 27 = .ok (.iload_n 1, 1) := dd_all DX2_init_0_ok 15 rfl
theorem dX2_init_28 : decode cX2_init 28 = .ok (.new 9, 3) := dd_all DX2_init_0_ok 16 rfl
theorem dX2_init_31 : decode cX2_init 31 = .ok (.dup, 1) := dd_all DX2_init_0_ok 17 rfl
theorem dX2_init_32 : decode cX2_init 32 = .ok (.invokespecial 17, 3) := dd_all DX2_init_0_ok 18 rfl
theorem dX2_init_35 : decode cX2_init 35 = .ok (.aastore, 1) := dd_all DX2_init_0_ok 19 rfl
theorem dX2_init_36 : decode cX2_init 36 = .ok (.iinc 1 1, 3) := dd_all DX2_init_0_ok 20 rfl
theorem dX2_init_39 : decode cX2_init 39 = .ok (.goto (-25), 3) := dd_all DX2_init_0_ok 21 rfl
theorem dX2_init_42 : decode cX2_init 42 = .ok (.return_, 1) := dd_all DX2_init_0_ok 22 rfl
def DX2_record_0 : List (Nat × Instr × Nat) := [(0, .aload_n 0, 1), (1, .getfield 18, 3), (4, .iconst 4, 1), (5, .if_icmp .ne 7, 3), (8, .aload_n 0, 1), (9, .invokevirtual 22, 3), (12, .aload_n 0, 1), (13, .aload_n 0, 1), (14, .getfield 18, 3), (17, .invokevirtual 25, 3), (20, .astore_n 2, 1), (21, .aload_n 2, 1), (22, .ifnull 18, 3), (25, .aload_n 2, 1), (26, .aload_n 1, 1), (27, .invokevirtual 29, 3), (30, .aload_n 0, 1), (31, .dup, 1), (32, .getfield 18, 3), (35, .iconst 1, 1), (36, .iadd, 1), (37, .putfield 18, 3), (40, .return_, 1)]
theorem DX2_record_0_ok : ∀ q ∈ DX2_record_0, decode cX2_record q.1 = .ok (q.2.1, q.2.2) := by decide +kernel
theorem dX2_record_0 : decode cX2_record 0 = .ok (.aload_n 0, 1) := dd_all DX2_record_0_ok 0 rfl
theorem dX2_record_1 : decode cX2_record 1 = .ok (.getfield 18, 3) := dd_all DX2_record_0_ok 1 rfl
theorem dX2_record_4 : decode cX2_record 4 = .ok (.iconst 4, 1) := dd_all DX2_record_0_ok 2 rfl
theorem dX2_record_5 : decode cX2_record 5 = .ok (.if_icmp .ne 7, 3) := dd_all DX2_record_0_ok 3 rfl
theorem dX2_record_8 : decode cX2_record 8 = .ok (.aload_n 0, 1) := dd_all DX2_record_0_ok 4 rfl
theorem dX2_record_9 : decode cX2_record 9 = .ok (.invokevirtual 22, 3) := dd_all DX2_record_0_ok 5 rfl
theorem dX2_record_12 : decode cX2_record 12 = .ok (.aload_n 0, 1) := dd_all DX2_record_0_ok 6 rfl
theorem dX2_record_13 : decode cX2_record 13 = .ok (.aload_n 0, 1) := dd_all DX2_record_0_ok 7 rfl
theorem dX2_record_14 : decode cX2_record 14 = .ok (.getfield 18, 3) := dd_all DX2_record_0_ok 8 rfl
theorem dX2_record_17 : decode cX2_record 17 = .ok (.invokevirtual 25, 3) := dd_all DX2_record_0_ok 9 rfl
theorem dX2_record_20 : decode cX2_record 20 = .ok (.astore_n 2, 1) := dd_all DX2_record_0_ok 10 rfl
theorem dX2_record_21 : decode cX2_record 21 = .ok (.aload_n 2, 1) := dd_all DX2_record_0_ok 11 rfl
theorem dX2_record_22 : decode cX2_record 22 = .ok (.ifnull 18, 3) := dd_all DX2_record_0_ok 12 rfl
theorem dX2_record_25 : decode cX2_record 25 = .ok (.aload_n 2, 1) := dd_all DX2_record_0_ok 13 rfl
theorem dX2_record_26 : decode cX2_record 26 = .ok (.aload_n 1, 1) := dd_all DX2_record_0_ok 14 rfl
theorem dX2_record_27 : decode cX2_record 27 = .ok (.invokevirtual 29, 3) := dd_all DX2_record_0_ok 15 rfl
theorem dX2_record_30 : decode cX2_record 30 = .ok (.aload_n 0, 1) := dd_all DX2_record_0_ok 16 rfl
theorem dX2_record_31 : decode cX2_record 31 = .ok (.dup, 1) := dd_all DX2_record_0_ok 17 rfl
theorem dX2_record_32 : decode cX2_record 32 = .ok (.getfield 18, 3) := dd_all DX2_record_0_ok 18 rfl
theorem dX2_record_35 : decode cX2_record 35 = .ok (.iconst 1, 1) := dd_all DX2_record_0_ok 19 rfl
theorem dX2_record_36 : decode cX2_record 36 = .ok (.iadd, 1) := dd_all DX2_record_0_ok 20 rfl
theorem dX2_record_37 : decode cX2_record 37 = .ok (.putfield 18, 3) := dd_all DX2_record_0_ok 21 rfl
theorem dX2_record_40 : decode cX2_record 40 = .ok (.return_, 1) := dd_all DX2_record_0_ok 22 rfl
def DX2_stateAt_0 : List (Nat × Instr × Nat) := [(0, .iload_n 1, 1), (1, .ifCond .lt 21, 3), (4, .iload_n 1, 1), (5, .aload_n 0, 1), (6, .getfield 11, 3), (9, .arraylength, 1), (10, .if_icmp .ge 12, 3), (13, .aload_n 0, 1), (14, .getfield 11, 3), (17, .iload_n 1, 1), (18, .aaload, 1), (19, .goto 4, 3), (22, .aconst_null, 1), (23, .areturn, 1)]
theorem DX2_stateAt_0_ok : ∀ q ∈ DX2_stateAt_0, decode cX2_stateAt q.1 = .ok (q.2.1, q.2.2) := by decide +kernel
theorem dX2_stateAt_0 : decode cX2_stateAt 0 = .ok (.iload_n 1, 1) := dd_all DX2_stateAt_0_ok 0 rfl
theorem dX2_stateAt_1 : decode cX2_stateAt 1 = .ok (.ifCond .lt 21, 3) := dd_all DX2_stateAt_0_ok 1 rfl
theorem dX2_stateAt_4 : decode cX2_stateAt 4 = .ok (.iload_n 1, 1) := dd_all DX2_stateAt_0_ok 2 rfl
theorem dX2_stateAt_5 : decode cX2_stateAt 5 = .ok (.aload_n 0, 1) := dd_all DX2_stateAt_0_ok 3 rfl
theorem dX2_stateAt_6 : decode cX2_stateAt 6 = .ok (.getfield 11, 3) := dd_all DX2_stateAt_0_ok 4 rfl
theorem dX2_stateAt_9 : decode cX2_stateAt 9 = .ok (.arraylength, 1) := dd_all DX2_stateAt_0_ok 5 rfl
theorem dX2_stateAt_10 : decode cX2_stateAt 10 = .ok (.if_icmp .ge 12, 3) := dd_all DX2_stateAt_0_ok 6 rfl
theorem dX2_stateAt_13 : decode cX2_stateAt 13 = .ok (.aload_n 0, 1) := dd_all DX2_stateAt_0_ok 7 rfl
theorem dX2_stateAt_14 : decode cX2_stateAt 14 = .ok (.getfield 11, 3) := dd_all DX2_stateAt_0_ok 8 rfl
theorem dX2_stateAt_17 : decode cX2_stateAt 17 = .ok (.iload_n 1, 1) := dd_all DX2_stateAt_0_ok 9 rfl
theorem dX2_stateAt_18 : decode cX2_stateAt 18 = .ok (.aaload, 1) := dd_all DX2_stateAt_0_ok 10 rfl
theorem dX2_stateAt_19 : decode cX2_stateAt 19 = .ok (.goto 4, 3) := dd_all DX2_stateAt_0_ok 11 rfl
theorem dX2_stateAt_22 : decode cX2_stateAt 22 = .ok (.aconst_null, 1) := dd_all DX2_stateAt_0_ok 12 rfl
theorem dX2_stateAt_23 : decode cX2_stateAt 23 = .ok (.areturn, 1) := dd_all DX2_stateAt_0_ok 13 rfl
def DX2_dropOldest_0 : List (Nat × Instr × Nat) := [(0, .aload_n 0, 1), (1, .iconst 0, 1), (2, .invokevirtual 25, 3), (5, .astore_n 1, 1), (6, .iconst 1, 1), (7, .istore_n 2, 1), (8, .iload_n 2, 1), (9, .aload_n 0, 1), (10, .getfield 11, 3), (13, .arraylength, 1), (14, .if_icmp .ge 23, 3), (17, .aload_n 0, 1), (18, .getfield 11, 3), (21, .iload_n 2, 1), (22, .iconst 1, 1), (23, .isub, 1), (24, .aload_n 0, 1), (25, .getfield 11, 3), (28, .iload_n 2, 1), (29, .aaload, 1), (30, .aastore, 1), (31, .iinc 2 1, 3), (34, .goto (-26), 3), (37, .aload_n 0, 1), (38, .getfield 11, 3), (41, .arraylength, 1), (42, .ifCond .le 16, 3), (45, .aload_n 0, 1), (46, .getfield 11, 3), (49, .aload_n 0, 1), (50, .getfield 11, 3), (53, .arraylength, 1), (54, .iconst 1, 1), (55, .isub, 1), (56, .aload_n 1, 1), (57, .aastore, 1), (58, .aload_n 0, 1), (59, .dup, 1), (60, .getfield 18, 3), (63, .iconst 1, 1)]
theorem DX2_dropOldest_0_ok : ∀ q ∈ DX2_dropOldest_0, decode cX2_dropOldest q.1 = .ok (q.2.1, q.2.2) := by decide +kernel
theorem dX2_dropOldest_0 : decode cX2_dropOldest 0 = .ok (.aload_n 0, 1) := dd_all DX2_dropOldest_0_ok 0 rfl
theorem dX2_dropOldest_1 : decode cX2_dropOldest 1 = .ok (.iconst 0, 1) := dd_all DX2_dropOldest_0_ok 1 rfl
theorem dX2_dropOldest_2 : decode cX2_dropOldest 2 = .ok (.invokevirtual 25, 3) := dd_all DX2_dropOldest_0_ok 2 rfl
theorem dX2_dropOldest_5 : decode cX2_dropOldest 5 = .ok (.astore_n 1, 1) := dd_all DX2_dropOldest_0_ok 3 rfl
theorem dX2_dropOldest_6 : decode cX2_dropOldest 6 = .ok (.iconst 1, 1) := dd_all DX2_dropOldest_0_ok 4 rfl
theorem dX2_dropOldest_7 : decode cX2_dropOldest 7 = .ok (.istore_n 2, 1) := dd_all DX2_dropOldest_0_ok 5 rfl
theorem dX2_dropOldest_8 : decode cX2_dropOldest 8 = .ok (.iload_n 2, 1) := dd_all DX2_dropOldest_0_ok 6 rfl
theorem dX2_dropOldest_9 : decode cX2_dropOldest 9 = .ok (.aload_n 0, 1) := dd_all DX2_dropOldest_0_ok 7 rfl
theorem dX2_dropOldest_10 : decode cX2_dropOldest 10 = .ok (.getfield 11, 3) := dd_all DX2_dropOldest_0_ok 8 rfl
theorem dX2_dropOldest_13 : decode cX2_dropOldest 13 = .ok (.arraylength, 1) := dd_all DX2_dropOldest_0_ok 9 rfl
theorem dX2_dropOldest_14 : decode cX2_dropOldest 14 = .ok (.if_icmp .ge 23, 3) := dd_all DX2_dropOldest_0_ok 10 rfl
theorem dX2_dropOldest_17 : decode cX2_dropOldest 17 = .ok (.aload_n 0, 1) := dd_all DX2_dropOldest_0_ok 11 rfl
theorem dX2_dropOldest_18 : decode cX2_dropOldest 18 = .ok (.getfield 11, 3) := dd_all DX2_dropOldest_0_ok 12 rfl
theorem dX2_dropOldest_21 : decode cX2_dropOldest 21 = .ok (.iload_n 2, 1) := dd_all DX2_dropOldest_0_ok 13 rfl
theorem dX2_dropOldest_22 : decode cX2_dropOldest 22 = .ok (.iconst 1, 1) := dd_all DX2_dropOldest_0_ok 14 rfl
theorem dX2_dropOldest_23 : decode cX2_dropOldest 23 = .ok (.isub, 1) := dd_all DX2_dropOldest_0_ok 15 rfl
theorem dX2_dropOldest_24 : decode cX2_dropOldest 24 = .ok (.aload_n 0, 1) := dd_all DX2_dropOldest_0_ok 16 rfl
theorem dX2_dropOldest_25 : decode cX2_dropOldest 25 = .ok (.getfield 11, 3) := dd_all DX2_dropOldest_0_ok 17 rfl
theorem dX2_dropOldest_28 : decode cX2_dropOldest 28 = .ok (.iload_n 2, 1) := dd_all DX2_dropOldest_0_ok 18 rfl
theorem dX2_dropOldest_29 : decode cX2_dropOldest 29 = .ok (.aaload, 1) := dd_all DX2_dropOldest_0_ok 19 rfl
theorem dX2_dropOldest_30 : decode cX2_dropOldest 30 = .ok (.aastore, 1) := dd_all DX2_dropOldest_0_ok 20 rfl
theorem dX2_dropOldest_31 : decode cX2_dropOldest 31 = .ok (.iinc 2 1, 3) := dd_all DX2_dropOldest_0_ok 21 rfl
theorem dX2_dropOldest_34 : decode cX2_dropOldest 34 = .ok (.goto (-26), 3) := dd_all DX2_dropOldest_0_ok 22 rfl
theorem dX2_dropOldest_37 : decode cX2_dropOldest 37 = .ok (.aload_n 0, 1) := dd_all DX2_dropOldest_0_ok 23 rfl
theorem dX2_dropOldest_38 : decode cX2_dropOldest 38 = .ok (.getfield 11, 3) := dd_all DX2_dropOldest_0_ok 24 rfl
theorem dX2_dropOldest_41 : decode cX2_dropOldest 41 = .ok (.arraylength, 1) := dd_all DX2_dropOldest_0_ok 25 rfl
theorem dX2_dropOldest_42 : decode cX2_dropOldest 42 = .ok (.ifCond .le 16, 3) := dd_all DX2_dropOldest_0_ok 26 rfl
theorem dX2_dropOldest_45 : decode cX2_dropOldest 45 = .ok (.aload_n 0, 1) := dd_all DX2_dropOldest_0_ok 27 rfl
theorem dX2_dropOldest_46 : decode cX2_dropOldest 46 = .ok (.getfield 11, 3) := dd_all DX2_dropOldest_0_ok 28 rfl
theorem dX2_dropOldest_49 : decode cX2_dropOldest 49 = .ok (.aload_n 0, 1) := dd_all DX2_dropOldest_0_ok 29 rfl
theorem dX2_dropOldest_50 : decode cX2_dropOldest 50 = .ok (.getfield 11, 3) := dd_all DX2_dropOldest_0_ok 30 rfl
theorem dX2_dropOldest_53 : decode cX2_dropOldest 53 = .ok (.arraylength, 1) := dd_all DX2_dropOldest_0_ok 31 rfl
theorem dX2_dropOldest_54 : decode cX2_dropOldest 54 = .ok (.iconst 1, 1) := dd_all DX2_dropOldest_0_ok 32 rfl
theorem dX2_dropOldest_55 : decode cX2_dropOldest 55 = .ok (.isub, 1) := dd_all DX2_dropOldest_0_ok 33 rfl
theorem dX2_dropOldest_56 : decode cX2_dropOldest 56 = .ok (.aload_n 1, 1) := dd_all DX2_dropOldest_0_ok 34 rfl
theorem dX2_dropOldest_57 : decode cX2_dropOldest 57 = .ok (.aastore, 1) := dd_all DX2_dropOldest_0_ok 35 rfl
theorem dX2_dropOldest_58 : decode cX2_dropOldest 58 = .ok (.aload_n 0, 1) := dd_all DX2_dropOldest_0_ok 36 rfl
theorem dX2_dropOldest_59 : decode cX2_dropOldest 59 = .ok (.dup, 1) := dd_all DX2_dropOldest_0_ok 37 rfl
theorem dX2_dropOldest_60 : decode cX2_dropOldest 60 = .ok (.getfield 18, 3) := dd_all DX2_dropOldest_0_ok 38 rfl
theorem dX2_dropOldest_63 : decode cX2_dropOldest 63 = .ok (.iconst 1, 1) := dd_all DX2_dropOldest_0_ok 39 rfl
def DX2_dropOldest_40 : List (Nat × Instr × Nat) := [(64, .isub, 1), (65, .putfield 18, 3), (68, .return_, 1)]
theorem DX2_dropOldest_40_ok : ∀ q ∈ DX2_dropOldest_40, decode cX2_dropOldest q.1 = .ok (q.2.1, q.2.2) := by decide +kernel
theorem dX2_dropOldest_64 : decode cX2_dropOldest 64 = .ok (.isub, 1) := dd_all DX2_dropOldest_40_ok 0 rfl
theorem dX2_dropOldest_65 : decode cX2_dropOldest 65 = .ok (.putfield 18, 3) := dd_all DX2_dropOldest_40_ok 1 rfl
theorem dX2_dropOldest_68 : decode cX2_dropOldest 68 = .ok (.return_, 1) := dd_all DX2_dropOldest_40_ok 2 rfl
def DX3_init_0 : List (Nat × Instr × Nat) := [(0, .aload_n 0, 1), (1, .invokespecial 3, 3), (4, .aload_n 0, 1), (5, .iconst 0, 1), (6, .iload_n 1, 1), (7, .invokestatic 9, 3), (10, .newarray .int, 2), (12, .putfield 15, 3), (15, .return_, 1)]
theorem DX3_init_0_ok : ∀ q ∈ DX3_init_0, decode cX3_init q.1 = .ok (q.2.1, q.2.2) := by decide +kernel
theorem dX3_init_0 : decode cX3_init 0 = .ok (.aload_n 0, 1) := dd_all DX3_init_0_ok 0 rfl
theorem dX3_init_1 : decode cX3_init 1 = .ok (.invokespecial 3, 3) := dd_all DX3_init_0_ok 1 rfl
theorem dX3_init_4 : decode cX3_init 4 = .ok (.aload_n 0, 1) := dd_all DX3_init_0_ok 2 rfl
theorem dX3_init_5 : decode cX3_init 5 = .ok (.iconst 0, 1) := dd_all DX3_init_0_ok 3 rfl
theorem dX3_init_6 : decode cX3_init 6 = .ok (.iload_n 1, 1) := dd_all DX3_init_0_ok 4 rfl
theorem dX3_init_7 : decode cX3_init 7 = .ok (.invokestatic 9, 3) := dd_all DX3_init_0_ok 5 rfl
theorem dX3_init_10 : decode cX3_init 10 = .ok (.newarray .int, 2) := dd_all DX3_init_0_ok 6 rfl
theorem dX3_init_12 : decode cX3_init 12 = .ok (.putfield 15, 3) := dd_all DX3_init_0_ok 7 rfl
theorem dX3_init_15 : decode cX3_init 15 = .ok (.return_, 1) := dd_all DX3_init_0_ok 8 rfl
def DX3_noteAt_0 : List (Nat × Instr × Nat) := [(0, .iload_n 1, 1), (1, .ifCond .lt 22, 3), (4, .iload_n 1, 1), (5, .aload_n 0, 1), (6, .getfield 21, 3), (9, .if_icmp .ge 14, 3), (12, .aload_n 0, 1), (13, .getfield 15, 3), (16, .iload_n 1, 1), (17, .invokestatic 25, 3), (20, .goto 4, 3), (23, .iconst (-1), 1), (24, .ireturn, 1)]
theorem DX3_noteAt_0_ok : ∀ q ∈ DX3_noteAt_0, decode cX3_noteAt q.1 = .ok (q.2.1, q.2.2) := by decide +kernel
theorem dX3_noteAt_0 : decode cX3_noteAt 0 = .ok (.iload_n 1, 1) := dd_all DX3_noteAt_0_ok 0 rfl
theorem dX3_noteAt_1 : decode cX3_noteAt 1 = .ok (.ifCond .lt 22, 3) := dd_all DX3_noteAt_0_ok 1 rfl
theorem dX3_noteAt_4 : decode cX3_noteAt 4 = .ok (.iload_n 1, 1) := dd_all DX3_noteAt_0_ok 2 rfl
theorem dX3_noteAt_5 : decode cX3_noteAt 5 = .ok (.aload_n 0, 1) := dd_all DX3_noteAt_0_ok 3 rfl
theorem dX3_noteAt_6 : decode cX3_noteAt 6 = .ok (.getfield 21, 3) := dd_all DX3_noteAt_0_ok 4 rfl
theorem dX3_noteAt_9 : decode cX3_noteAt 9 = .ok (.if_icmp .ge 14, 3) := dd_all DX3_noteAt_0_ok 5 rfl
theorem dX3_noteAt_12 : decode cX3_noteAt 12 = .ok (.aload_n 0, 1) := dd_all DX3_noteAt_0_ok 6 rfl
theorem dX3_noteAt_13 : decode cX3_noteAt 13 = .ok (.getfield 15, 3) := dd_all DX3_noteAt_0_ok 7 rfl
theorem dX3_noteAt_16 : decode cX3_noteAt 16 = .ok (.iload_n 1, 1) := dd_all DX3_noteAt_0_ok 8 rfl
theorem dX3_noteAt_17 : decode cX3_noteAt 17 = .ok (.invokestatic 25, 3) := dd_all DX3_noteAt_0_ok 9 rfl
theorem dX3_noteAt_20 : decode cX3_noteAt 20 = .ok (.goto 4, 3) := dd_all DX3_noteAt_0_ok 10 rfl
theorem dX3_noteAt_23 : decode cX3_noteAt 23 = .ok (.iconst (-1), 1) := dd_all DX3_noteAt_0_ok 11 rfl
theorem dX3_noteAt_24 : decode cX3_noteAt 24 = .ok (.ireturn, 1) := dd_all DX3_noteAt_0_ok 12 rfl
def DX3_indexOf_0 : List (Nat × Instr × Nat) := [(0, .iconst 0, 1), (1, .istore_n 2, 1), (2, .iload_n 2, 1), (3, .aload_n 0, 1), (4, .getfield 21, 3), (7, .if_icmp .ge 23, 3), (10, .aload_n 0, 1), (11, .getfield 15, 3), (14, .iload_n 2, 1), (15, .invokestatic 25, 3), (18, .iload_n 1, 1), (19, .if_icmp .ne 5, 3), (22, .iload_n 2, 1), (23, .ireturn, 1), (24, .iinc 2 1, 3), (27, .goto (-25), 3), (30, .iconst (-1), 1), (31, .ireturn, 1)]
theorem DX3_indexOf_0_ok : ∀ q ∈ DX3_indexOf_0, decode cX3_indexOf q.1 = .ok (q.2.1, q.2.2) := by decide +kernel
theorem dX3_indexOf_0 : decode cX3_indexOf 0 = .ok (.iconst 0, 1) := dd_all DX3_indexOf_0_ok 0 rfl
theorem dX3_indexOf_1 : decode cX3_indexOf 1 = .ok (.istore_n 2, 1) := dd_all DX3_indexOf_0_ok 1 rfl
theorem dX3_indexOf_2 : decode cX3_indexOf 2 = .ok (.iload_n 2, 1) := dd_all DX3_indexOf_0_ok 2 rfl
theorem dX3_indexOf_3 : decode cX3_indexOf 3 = .ok (.aload_n 0, 1) := dd_all DX3_indexOf_0_ok 3 rfl
theorem dX3_indexOf_4 : decode cX3_indexOf 4 = .ok (.getfield 21, 3) := dd_all DX3_indexOf_0_ok 4 rfl
theorem dX3_indexOf_7 : decode cX3_indexOf 7 = .ok (.if_icmp .ge 23, 3) := dd_all DX3_indexOf_0_ok 5 rfl
theorem dX3_indexOf_10 : decode cX3_indexOf 10 = .ok (.aload_n 0, 1) := dd_all DX3_indexOf_0_ok 6 rfl
theorem dX3_indexOf_11 : decode cX3_indexOf 11 = .ok (.getfield 15, 3) := dd_all DX3_indexOf_0_ok 7 rfl
theorem dX3_indexOf_14 : decode cX3_indexOf 14 = .ok (.iload_n 2, 1) := dd_all DX3_indexOf_0_ok 8 rfl
theorem dX3_indexOf_15 : decode cX3_indexOf 15 = .ok (.invokestatic 25, 3) := dd_all DX3_indexOf_0_ok 9 rfl
theorem dX3_indexOf_18 : decode cX3_indexOf 18 = .ok (.iload_n 1, 1) := dd_all DX3_indexOf_0_ok 10 rfl
theorem dX3_indexOf_19 : decode cX3_indexOf 19 = .ok (.if_icmp .ne 5, 3) := dd_all DX3_indexOf_0_ok 11 rfl
theorem dX3_indexOf_22 : decode cX3_indexOf 22 = .ok (.iload_n 2, 1) := dd_all DX3_indexOf_0_ok 12 rfl
theorem dX3_indexOf_23 : decode cX3_indexOf 23 = .ok (.ireturn, 1) := dd_all DX3_indexOf_0_ok 13 rfl
theorem dX3_indexOf_24 : decode cX3_indexOf 24 = .ok (.iinc 2 1, 3) := dd_all DX3_indexOf_0_ok 14 rfl
theorem dX3_indexOf_27 : decode cX3_indexOf 27 = .ok (.goto (-25), 3) := dd_all DX3_indexOf_0_ok 15 rfl
theorem dX3_indexOf_30 : decode cX3_indexOf 30 = .ok (.iconst (-1), 1) := dd_all DX3_indexOf_0_ok 16 rfl
theorem dX3_indexOf_31 : decode cX3_indexOf 31 = .ok (.ireturn, 1) := dd_all DX3_indexOf_0_ok 17 rfl
def DX3_append_0 : List (Nat × Instr × Nat) := [(0, .aload_n 0, 1), (1, .getfield 21, 3), (4, .aload_n 0, 1), (5, .getfield 15, 3), (8, .arraylength, 1), (9, .if_icmp .ge 25, 3), (12, .aload_n 0, 1), (13, .getfield 15, 3), (16, .aload_n 0, 1), (17, .getfield 21, 3), (20, .iload_n 1, 1), (21, .invokestatic 29, 3), (24, .aload_n 0, 1), (25, .dup, 1), (26, .getfield 21, 3), (29, .iconst 1, 1), (30, .iadd, 1), (31, .putfield 21, 3), (34, .return_, 1)]
theorem DX3_append_0_ok : ∀ q ∈ DX3_append_0, decode cX3_append q.1 = .ok (q.2.1, q.2.2) := by decide +kernel
theorem dX3_append_0 : decode cX3_append 0 = .ok (.aload_n 0, 1) := dd_all DX3_append_0_ok 0 rfl
theorem dX3_append_1 : decode cX3_append 1 = .ok (.getfield 21, 3) := dd_all DX3_append_0_ok 1 rfl
theorem dX3_append_4 : decode cX3_append 4 = .ok (.aload_n 0, 1) := dd_all DX3_append_0_ok 2 rfl
theorem dX3_append_5 : decode cX3_append 5 = .ok (.getfield 15, 3) := dd_all DX3_append_0_ok 3 rfl
theorem dX3_append_8 : decode cX3_append 8 = .ok (.arraylength, 1) := dd_all DX3_append_0_ok 4 rfl
theorem dX3_append_9 : decode cX3_append 9 = .ok (.if_icmp .ge 25, 3) := dd_all DX3_append_0_ok 5 rfl
theorem dX3_append_12 : decode cX3_append 12 = .ok (.aload_n 0, 1) := dd_all DX3_append_0_ok 6 rfl
theorem dX3_append_13 : decode cX3_append 13 = .ok (.getfield 15, 3) := dd_all DX3_append_0_ok 7 rfl
theorem dX3_append_16 : decode cX3_append 16 = .ok (.aload_n 0, 1) := dd_all DX3_append_0_ok 8 rfl
theorem dX3_append_17 : decode cX3_append 17 = .ok (.getfield 21, 3) := dd_all DX3_append_0_ok 9 rfl
theorem dX3_append_20 : decode cX3_append 20 = .ok (.iload_n 1, 1) := dd_all DX3_append_0_ok 10 rfl
theorem dX3_append_21 : decode cX3_append 21 = .ok (.invokestatic 29, 3) := dd_all DX3_append_0_ok 11 rfl
theorem dX3_append_24 : decode cX3_append 24 = .ok (.aload_n 0, 1) := dd_all DX3_append_0_ok 12 rfl
theorem dX3_append_25 : decode cX3_append 25 = .ok (.dup, 1) := dd_all DX3_append_0_ok 13 rfl
theorem dX3_append_26 : decode cX3_append 26 = .ok (.getfield 21, 3) := dd_all DX3_append_0_ok 14 rfl
theorem dX3_append_29 : decode cX3_append 29 = .ok (.iconst 1, 1) := dd_all DX3_append_0_ok 15 rfl
theorem dX3_append_30 : decode cX3_append 30 = .ok (.iadd, 1) := dd_all DX3_append_0_ok 16 rfl
theorem dX3_append_31 : decode cX3_append 31 = .ok (.putfield 21, 3) := dd_all DX3_append_0_ok 17 rfl
theorem dX3_append_34 : decode cX3_append 34 = .ok (.return_, 1) := dd_all DX3_append_0_ok 18 rfl
def DX3_removeNote_0 : List (Nat × Instr × Nat) := [(0, .iconst 0, 1), (1, .istore_n 2, 1), (2, .aload_n 0, 1), (3, .getfield 21, 3), (6, .istore_n 3, 1), (7, .iconst 0, 1), (8, .istore 4, 2), (10, .iload 4, 2), (12, .iload_n 3, 1), (13, .if_icmp .ge 39, 3), (16, .aload_n 0, 1), (17, .getfield 15, 3), (20, .iload 4, 2), (22, .invokestatic 25, 3), (25, .istore 5, 2), (27, .iload 5, 2), (29, .iload_n 1, 1), (30, .if_icmp .eq 16, 3), (33, .aload_n 0, 1), (34, .getfield 15, 3), (37, .iload_n 2, 1), (38, .iload 5, 2), (40, .invokestatic 29, 3), (43, .iinc 2 1, 3), (46, .iinc 4 1, 3), (49, .goto (-39), 3), (52, .aload_n 0, 1), (53, .iload_n 2, 1), (54, .putfield 21, 3), (57, .return_, 1)]
theorem DX3_removeNote_0_ok : ∀ q ∈ DX3_removeNote_0, decode cX3_removeNote q.1 = .ok (q.2.1, q.2.2) := by decide +kernel
theorem dX3_removeNote_0 : decode cX3_removeNote 0 = .ok (.iconst 0, 1) := dd_all DX3_removeNote_0_ok 0 rfl
theorem dX3_removeNote_1 : decode cX3_removeNote 1 = .ok (.istore_n 2, 1) := dd_all DX3_removeNote_0_ok 1 rfl
theorem dX3_removeNote_2 : decode cX3_removeNote 2 = .ok (.aload_n 0, 1) := dd_all DX3_removeNote_0_ok 2 rfl
theorem dX3_removeNote_3 : decode cX3_removeNote 3 = .ok (.getfield 21, 3) := dd_all DX3_removeNote_0_ok 3 rfl
theorem dX3_removeNote_6 : decode cX3_removeNote 6 = .ok (.istore_n 3, 1) := dd_all DX3_removeNote_0_ok 4 rfl
theorem dX3_removeNote_7 : decode cX3_removeNote 7 = .ok (.iconst 0, 1) := dd_all DX3_removeNote_0_ok 5 rfl
theorem dX3_removeNote_8 : decode cX3_removeNote 8 = .ok (.istore 4, 2) := dd_all DX3_removeNote_0_ok 6 rfl
theorem dX3_removeNote_10 : decode cX3_removeNote 10 = .ok (.iload 4, 2) := dd_all DX3_removeNote_0_ok 7 rfl
theorem dX3_removeNote_12 : decode cX3_removeNote 12 = .ok (.iload_n 3, 1) := dd_all DX3_removeNote_0_ok 8 rfl
theorem dX3_removeNote_13 : decode cX3_removeNote 13 = .ok (.if_icmp .ge 39, 3) := dd_all DX3_removeNote_0_ok 9 rfl
theorem dX3_removeNote_16 : decode cX3_removeNote 16 = .ok (.aload_n 0, 1) := dd_all DX3_removeNote_0_ok 10 rfl
theorem dX3_removeNote_17 : decode cX3_removeNote 17 = .ok (.getfield 15, 3) := dd_all DX3_removeNote_0_ok 11 rfl
theorem dX3_removeNote_20 : decode cX3_removeNote 20 = .ok (.iload 4, 2) := dd_all DX3_removeNote_0_ok 12 rfl
theorem dX3_removeNote_22 : decode cX3_removeNote 22 = .ok (.invokestatic 25, 3) := dd_all DX3_removeNote_0_ok 13 rfl
theorem dX3_removeNote_25 : decode cX3_removeNote 25 = .ok (.istore 5, 2) := dd_all DX3_removeNote_0_ok 14 rfl
theorem dX3_removeNote_27 : decode cX3_removeNote 27 = .ok (.iload 5, 2) := dd_all DX3_removeNote_0_ok 15 rfl
theorem dX3_removeNote_29 : decode cX3_removeNote 29 = .ok (.iload_n 1, 1) := dd_all DX3_removeNote_0_ok 16 rfl
theorem dX3_removeNote_30 : decode cX3_removeNote 30 = .ok (.if_icmp .eq 16, 3) := dd_all DX3_removeNote_0_ok 17 rfl
theorem dX3_removeNote_33 : decode cX3_removeNote 33 = .ok (.aload_n 0, 1) := dd_all DX3_removeNote_0_ok 18 rfl
theorem dX3_removeNote_34 : decode cX3_removeNote 34 = .ok (.getfield 15, 3) := dd_all DX3_removeNote_0_ok 19 rfl
theorem dX3_removeNote_37 : decode cX3_removeNote 37 = .ok (.iload_n 2, 1) := dd_all DX3_removeNote_0_ok 20 rfl
theorem dX3_removeNote_38 : decode cX3_removeNote 38 = .ok (.iload 5, 2) := dd_all DX3_removeNote_0_ok 21 rfl
theorem dX3_removeNote_40 : decode cX3_removeNote 40 = .ok (.invokestatic 29, 3) := dd_all DX3_removeNote_0_ok 22 rfl
theorem dX3_removeNote_43 : decode cX3_removeNote 43 = .ok (.iinc 2 1, 3) := dd_all DX3_removeNote_0_ok 23 rfl
theorem dX3_removeNote_46 : decode cX3_removeNote 46 = .ok (.iinc 4 1, 3) := dd_all DX3_removeNote_0_ok 24 rfl
theorem dX3_removeNote_49 : decode cX3_removeNote 49 = .ok (.goto (-39), 3) := dd_all DX3_removeNote_0_ok 25 rfl
theorem dX3_removeNote_52 : decode cX3_removeNote 52 = .ok (.aload_n 0, 1) := dd_all DX3_removeNote_0_ok 26 rfl
theorem dX3_removeNote_53 : decode cX3_removeNote 53 = .ok (.iload_n 2, 1) := dd_all DX3_removeNote_0_ok 27 rfl
theorem dX3_removeNote_54 : decode cX3_removeNote 54 = .ok (.putfield 21, 3) := dd_all DX3_removeNote_0_ok 28 rfl
theorem dX3_removeNote_57 : decode cX3_removeNote 57 = .ok (.return_, 1) := dd_all DX3_removeNote_0_ok 29 rfl
def DX3_copyFrom_0 : List (Nat × Instr × Nat) := [(0, .aload_n 1, 1), (1, .getfield 15, 3), (4, .aload_n 0, 1), (5, .getfield 15, 3), (8, .aload_n 1, 1), (9, .getfield 21, 3), (12, .invokestatic 33, 3), (15, .aload_n 0, 1), (16, .aload_n 1, 1), (17, .getfield 21, 3), (20, .putfield 21, 3), (23, .return_, 1)]
theorem DX3_copyFrom_0_ok : ∀ q ∈ DX3_copyFrom_0, decode cX3_copyFrom q.1 = .ok (q.2.1, q.2.2) := by decide +kernel
theorem dX3_copyFrom_0 : decode cX3_copyFrom 0 = .ok (.aload_n 1, 1) := dd_all DX3_copyFrom_0_ok 0 rfl
theorem dX3_copyFrom_1 : decode cX3_copyFrom 1 = .ok (.getfield 15, 3) := dd_all DX3_copyFrom_0_ok 1 rfl
theorem dX3_copyFrom_4 : decode cX3_copyFrom 4 = .ok (.aload_n 0, 1) := dd_all DX3_copyFrom_0_ok 2 rfl
theorem dX3_copyFrom_5 : decode cX3_copyFrom 5 = .ok (.getfield 15, 3) := dd_all DX3_copyFrom_0_ok 3 rfl
theorem dX3_copyFrom_8 : decode cX3_copyFrom 8 = .ok (.aload_n 1, 1) := dd_all DX3_copyFrom_0_ok 4 rfl
theorem dX3_copyFrom_9 : decode cX3_copyFrom 9 = .ok (.getfield 21, 3) := dd_all DX3_copyFrom_0_ok 5 rfl
theorem dX3_copyFrom_12 : decode cX3_copyFrom 12 = .ok (.invokestatic 33, 3) := dd_all DX3_copyFrom_0_ok 6 rfl
theorem dX3_copyFrom_15 : decode cX3_copyFrom 15 = .ok (.aload_n 0, 1) := dd_all DX3_copyFrom_0_ok 7 rfl
theorem dX3_copyFrom_16 : decode cX3_copyFrom 16 = .ok (.aload_n 1, 1) := dd_all DX3_copyFrom_0_ok 8 rfl
theorem dX3_copyFrom_17 : decode cX3_copyFrom 17 = .ok (.getfield 21, 3) := dd_all DX3_copyFrom_0_ok 9 rfl
theorem dX3_copyFrom_20 : decode cX3_copyFrom 20 = .ok (.putfield 21, 3) := dd_all DX3_copyFrom_0_ok 10 rfl
theorem dX3_copyFrom_23 : decode cX3_copyFrom 23 = .ok (.return_, 1) := dd_all DX3_copyFrom_0_ok 11 rfl
def DX4_init_0 : List (Nat × Instr × Nat) := [(0, .aload_n 0, 1), (1, .invokespecial 3, 3), (4, .aload_n 0, 1), (5, .bipush 7, 2), (7, .newarray .int, 2), (9, .putfield 9, 3), (12, .aload_n 0, 1), (13, .bipush 7, 2), (15, .newarray .int, 2), (17, .putfield 15, 3), (20, .return_, 1)]
theorem DX4_init_0_ok : ∀ q ∈ DX4_init_0, decode cX4_init q.1 = .ok (q.2.1, q.2.2) := by decide +kernel
theorem dX4_init_0 : decode cX4_init 0 = .ok (.aload_n 0, 1) := dd_all DX4_init_0_ok 0 rfl
theorem dX4_init_1 : decode cX4_init 1 = .ok (.invokespecial 3, 3) := dd_all DX4_init_0_ok 1 rfl
theorem dX4_init_4 : decode cX4_init 4 = .ok (.aload_n 0, 1) := dd_all DX4_init_0_ok 2 rfl
theorem dX4_init_5 : decode cX4_init 5 = .ok (.bipush 7, 2) := dd_all DX4_init_0_ok 3 rfl
theorem dX4_init_7 : decode cX4_init 7 = .ok (.newarray .int, 2) := dd_all DX4_init_0_ok 4 rfl
theorem dX4_init_9 : decode cX4_init 9 = .ok (.putfield 9, 3) := dd_all DX4_init_0_ok 5 rfl
theorem dX4_init_12 : decode cX4_init 12 = .ok (.aload_n 0, 1) := dd_all DX4_init_0_ok 6 rfl
theorem dX4_init_13 : decode cX4_init 13 = .ok (.bipush 7, 2) := dd_all DX4_init_0_ok 7 rfl
theorem dX4_init_15 : decode cX4_init 15 = .ok (.newarray .int, 2) := dd_all DX4_init_0_ok 8 rfl
theorem dX4_init_17 : decode cX4_init 17 = .ok (.putfield 15, 3) := dd_all DX4_init_0_ok 9 rfl
theorem dX4_init_20 : decode cX4_init 20 = .ok (.return_, 1) := dd_all DX4_init_0_ok 10 rfl
def DX4_result_0 : List (Nat × Instr × Nat) := [(0, .aload_n 0, 1), (1, .iconst 0, 1), (2, .invokevirtual 18, 3), (5, .iconst 0, 1), (6, .istore_n 3, 1), (7, .iload_n 3, 1), (8, .aload_n 1, 1), (9, .getfield 22, 3), (12, .if_icmp .ge 142, 3), (15, .aload_n 1, 1), (16, .iload_n 3, 1), (17, .invokevirtual 28, 3), (20, .istore 4, 2), (22, .iload 4, 2), (24, .invokestatic 32, 3), (27, .istore 5, 2), (29, .iload 5, 2), (31, .iconst (-1), 1), (32, .if_icmp .eq 23, 3), (35, .aload_n 0, 1), (36, .aload_n 1, 1), (37, .iload_n 3, 1), (38, .iconst 1, 1), (39, .iadd, 1), (40, .aload_n 2, 1), (41, .iload 5, 2), (43, .invokestatic 36, 3), (46, .invokestatic 40, 3), (49, .invokevirtual 44, 3), (52, .goto 96, 3), (55, .iload 4, 2), (57, .bipush 40, 2), (59, .if_icmp .ne 16, 3), (62, .aload_n 0, 1), (63, .aload_n 0, 1), (64, .getfield 47, 3), (67, .iconst 1, 1), (68, .iadd, 1), (69, .invokevirtual 18, 3), (72, .goto 76, 3)]
theorem DX4_result_0_ok : ∀ q ∈ DX4_result_0, decode cX4_result q.1 = .ok (q.2.1, q.2.2) := by decide +kernel
theorem dX4_result_0 : decode cX4_result 0 = .ok (.aload_n 0, 1) := dd_all DX4_result_0_ok 0 rfl
theorem dX4_result_1 : decode cX4_result 1 = .ok (.iconst 0, 1) := dd_all DX4_result_0_ok 1 rfl
theorem dX4_result_2 : decode cX4_result 2 = .ok (.invokevirtual 18, 3) := dd_all DX4_result_0_ok 2 rfl
theorem dX4_result_5 : decode cX4_result 5 = .ok (.iconst 0, 1) := dd_all DX4_result_0_ok 3 rfl
theorem dX4_result_6 : decode cX4_result 6 = .ok (.istore_n 3, 1) := dd_all DX4_result_0_ok 4 rfl
theorem dX4_result_7 : decode cX4_result 7 = .ok (.iload_n 3, 1) := dd_all DX4_result_0_ok 5 rfl
theorem dX4_result_8 : decode cX4_result 8 = .ok (.aload_n 1, 1) := dd_all DX4_result_0_ok 6 rfl
theorem dX4_result_9 : decode cX4_result 9 = .ok (.getfield 22, 3) := dd_all DX4_result_0_ok 7 rfl
theorem dX4_result_12 : decode cX4_result 12 = .ok (.if_icmp .ge 142, 3) := dd_all DX4_result_0_ok 8 rfl
theorem dX4_result_15 : decode cX4_result 15 = .ok (.aload_n 1, 1) := dd_all DX4_result_0_ok 9 rfl
theorem dX4_result_16 : decode cX4_result 16 = .ok (.iload_n 3, 1) := dd_all DX4_result_0_ok 10 rfl
theorem dX4_result_17 : decode cX4_result 17 = .ok (.invokevirtual 28, 3) := dd_all DX4_result_0_ok 11 rfl
theorem dX4_result_20 : decode cX4_result 20 = .ok (.istore 4, 2) := dd_all DX4_result_0_ok 12 rfl
theorem dX4_result_22 : decode cX4_result 22 = .ok (.iload 4, 2) := dd_all DX4_result_0_ok 13 rfl
theorem dX4_result_24 : decode cX4_result 24 = .ok (.invokestatic 32, 3) := dd_all DX4_result_0_ok 14 rfl
theorem dX4_result_27 : decode cX4_result 27 = .ok (.istore 5, 2) := dd_all DX4_result_0_ok 15 rfl
theorem dX4_result_29 : decode cX4_result 29 = .ok (.iload 5, 2) := dd_all DX4_result_0_ok 16 rfl
theorem dX4_result_31 : decode cX4_result 31 = .ok (.iconst (-1), 1) := dd_all DX4_result_0_ok 17 rfl
theorem dX4_result_32 : decode cX4_result 32 = .ok (.if_icmp .eq 23, 3) := dd_all DX4_result_0_ok 18 rfl
theorem dX4_result_35 : decode cX4_result 35 = .ok (.aload_n 0, 1) := dd_all DX4_result_0_ok 19 rfl
theorem dX4_result_36 : decode cX4_result 36 = .ok (.aload_n 1, 1) := dd_all DX4_result_0_ok 20 rfl
theorem dX4_result_37 : decode cX4_result 37 = .ok (.iload_n 3, 1) := dd_all DX4_result_0_ok 21 rfl
theorem dX4_result_38 : decode cX4_result 38 = .ok (.iconst 1, 1) := dd_all DX4_result_0_ok 22 rfl
theorem dX4_result_39 : decode cX4_result 39 = .ok (.iadd, 1) := dd_all DX4_result_0_ok 23 rfl
theorem dX4_result_40 : decode cX4_result 40 = .ok (.aload_n 2, 1) := dd_all DX4_result_0_ok 24 rfl
theorem dX4_result_41 : decode cX4_result 41 = .ok (.iload 5, 2) := dd_all DX4_result_0_ok 25 rfl
theorem dX4_result_43 : decode cX4_result 43 = .ok (.invokestatic 36, 3) := dd_all DX4_result_0_ok 26 rfl
theorem dX4_result_46 : decode cX4_result 46 = .ok (.invokestatic 40, 3) := dd_all DX4_result_0_ok 27 rfl
theorem dX4_result_49 : decode cX4_result 49 = .ok (.invokevirtual 44, 3) := dd_all DX4_result_0_ok 28 rfl
theorem dX4_result_52 : decode cX4_result 52 = .ok (.goto 96, 3) := dd_all DX4_result_0_ok 29 rfl
theorem dX4_result_55 : decode cX4_result 55 = .ok (.iload 4, 2) := dd_all DX4_result_0_ok 30 rfl
theorem dX4_result_57 : decode cX4_result 57 = .ok (.bipush 40, 2) := dd_all DX4_result_0_ok 31 rfl
theorem dX4_result_59 : decode cX4_result 59 = .ok (.if_icmp .ne 16, 3) := dd_all DX4_result_0_ok 32 rfl
theorem dX4_result_62 : decode cX4_result 62 = .ok (.aload_n 0, 1) := dd_all DX4_result_0_ok 33 rfl
theorem dX4_result_63 : decode cX4_result 63 = .ok (.aload_n 0, 1) := dd_all DX4_result_0_ok 34 rfl
theorem dX4_result_64 : decode cX4_result 64 = .ok (.getfield 47, 3) := dd_all DX4_result_0_ok 35 rfl
theorem dX4_result_67 : decode cX4_result 67 = .ok (.iconst 1, 1) := dd_all DX4_result_0_ok 36 rfl
theorem dX4_result_68 : decode cX4_result 68 = .ok (.iadd, 1) := dd_all DX4_result_0_ok 37 rfl
theorem dX4_result_69 : decode cX4_result 69 = .ok (.invokevirtual 18, 3) := dd_all DX4_result_0_ok 38 rfl
theorem dX4_result_72 : decode cX4_result 72 = .ok (.goto 76, 3) := dd_all DX4_result_0_ok 39 rfl
def DX4_result_40 : List (Nat × Instr × Nat) := [(75, .iload 4, 2), (77, .bipush 41, 2), (79, .if_icmp .ne 42, 3), (82, .aload_n 0, 1), (83, .getfield 9, 3), (86, .aload_n 0, 1), (87, .getfield 47, 3), (90, .invokestatic 36, 3), (93, .istore 6, 2), (95, .aload_n 0, 1), (96, .dup, 1), (97, .getfield 47, 3), (100, .iconst 1, 1), (101, .isub, 1), (102, .putfield 47, 3), (105, .aload_n 0, 1), (106, .aload_n 1, 1), (107, .iload_n 3, 1), (108, .iconst 1, 1), (109, .iadd, 1), (110, .iload 6, 2), (112, .invokestatic 40, 3), (115, .invokevirtual 44, 3), (118, .goto 30, 3), (121, .iload 4, 2), (123, .bipush 43, 2), (125, .if_icmp .eq 10, 3), (128, .iload 4, 2), (130, .bipush 94, 2), (132, .if_icmp .ne 16, 3), (135, .aload_n 0, 1), (136, .getfield 15, 3), (139, .aload_n 0, 1), (140, .getfield 47, 3), (143, .iload 4, 2), (145, .invokestatic 50, 3), (148, .iinc 3 1, 3), (151, .goto (-144), 3), (154, .aload_n 0, 1), (155, .getfield 9, 3)]
theorem DX4_result_40_ok : ∀ q ∈ DX4_result_40, decode cX4_result q.1 = .ok (q.2.1, q.2.2) := by decide +kernel
theorem dX4_result_75 : decode cX4_result 75 = .ok (.iload 4, 2) := dd_all DX4_result_40_ok 0 rfl
theorem dX4_result_77 : decode cX4_result 77 = .ok (.bipush 41, 2) := dd_all DX4_result_40_ok 1 rfl
theorem dX4_result_79 : decode cX4_result 79 = .ok (.if_icmp .ne 42, 3) := dd_all DX4_result_40_ok 2 rfl
theorem dX4_result_82 : decode cX4_result 82 = .ok (.aload_n 0, 1) := dd_all DX4_result_40_ok 3 rfl
theorem dX4_result_83 : decode cX4_result 83 = .ok (.getfield 9, 3) := dd_all DX4_result_40_ok 4 rfl
theorem dX4_result_86 : decode cX4_result 86 = .ok (.aload_n 0, 1) := dd_all DX4_result_40_ok 5 rfl
theorem dX4_result_87 : decode cX4_result 87 = .ok (.getfield 47, 3) := dd_all DX4_result_40_ok 6 rfl
theorem dX4_result_90 : decode cX4_result 90 = .ok (.invokestatic 36, 3) := dd_all DX4_result_40_ok 7 rfl
theorem dX4_result_93 : decode cX4_result 93 = .ok (.istore 6, 2) := dd_all DX4_result_40_ok 8 rfl
theorem dX4_result_95 : decode cX4_result 95 = .ok (.aload_n 0, 1) := dd_all DX4_result_40_ok 9 rfl
theorem dX4_result_96 : decode cX4_result 96 = .ok (.dup, 1) := dd_all DX4_result_40_ok 10 rfl
theorem dX4_result_97 : decode cX4_result 97 = .ok (.getfield 47, 3) := dd_all DX4_result_40_ok 11 rfl
theorem dX4_result_100 : decode cX4_result 100 = .ok (.iconst 1, 1) := dd_all DX4_result_40_ok 12 rfl
theorem dX4_result_101 : decode cX4_result 101 = .ok (.isub, 1) := dd_all DX4_result_40_ok 13 rfl
theorem dX4_result_102 : decode cX4_result 102 = .ok (.putfield 47, 3) := dd_all DX4_result_40_ok 14 rfl
theorem dX4_result_105 : decode cX4_result 105 = .ok (.aload_n 0, 1) := dd_all DX4_result_40_ok 15 rfl
theorem dX4_result_106 : decode cX4_result 106 = .ok (.aload_n 1, 1) := dd_all DX4_result_40_ok 16 rfl
theorem dX4_result_107 : decode cX4_result 107 = .ok (.iload_n 3, 1) := dd_all DX4_result_40_ok 17 rfl
theorem dX4_result_108 : decode cX4_result 108 = .ok (.iconst 1, 1) := dd_all DX4_result_40_ok 18 rfl
theorem dX4_result_109 : decode cX4_result 109 = .ok (.iadd, 1) := dd_all DX4_result_40_ok 19 rfl
theorem dX4_result_110 : decode cX4_result 110 = .ok (.iload 6, 2) := dd_all DX4_result_40_ok 20 rfl
theorem dX4_result_112 : decode cX4_result 112 = .ok (.invokestatic 40, 3) := dd_all DX4_result_40_ok 21 rfl
theorem dX4_result_115 : decode cX4_result 115 = .ok (.invokevirtual 44, 3) := dd_all DX4_result_40_ok 22 rfl
theorem dX4_result_118 : decode cX4_result 118 = .ok (.goto 30, 3) := dd_all DX4_result_40_ok 23 rfl
theorem dX4_result_121 : decode cX4_result 121 = .ok (.iload 4, 2) := dd_all DX4_result_40_ok 24 rfl
theorem dX4_result_123 : decode cX4_result 123 = .ok (.bipush 43, 2) := dd_all DX4_result_40_ok 25 rfl
theorem dX4_result_125 : decode cX4_result 125 = .ok (.if_icmp .eq 10, 3) := dd_all DX4_result_40_ok 26 rfl
theorem dX4_result_128 : decode cX4_result 128 = .ok (.iload 4, 2) := dd_all DX4_result_40_ok 27 rfl
theorem dX4_result_130 : decode cX4_result 130 = .ok (.bipush 94, 2) := dd_all DX4_result_40_ok 28 rfl
theorem dX4_result_132 : decode cX4_result 132 = .ok (.if_icmp .ne 16, 3) := dd_all DX4_result_40_ok 29 rfl
theorem dX4_result_135 : decode cX4_result 135 = .ok (.aload_n 0, 1) := dd_all DX4_result_40_ok 30 rfl
theorem dX4_result_136 : decode cX4_result 136 = .ok (.getfield 15, 3) := dd_all DX4_result_40_ok 31 rfl
theorem dX4_result_139 : decode cX4_result 139 = .ok (.aload_n 0, 1) := dd_all DX4_result_40_ok 32 rfl
theorem dX4_result_140 : decode cX4_result 140 = .ok (.getfield 47, 3) := dd_all DX4_result_40_ok 33 rfl
theorem dX4_result_143 : decode cX4_result 143 = .ok (.iload 4, 2) := dd_all DX4_result_40_ok 34 rfl
theorem dX4_result_145 : decode cX4_result 145 = .ok (.invokestatic 50, 3) := dd_all DX4_result_40_ok 35 rfl
theorem dX4_result_148 : decode cX4_result 148 = .ok (.iinc 3 1, 3) := dd_all DX4_result_40_ok 36 rfl
theorem dX4_result_151 : decode cX4_result 151 = .ok (.goto (-144), 3) := dd_all DX4_result_40_ok 37 rfl
theorem dX4_result_154 : decode cX4_result 154 = .ok (.aload_n 0, 1) := dd_all DX4_result_40_ok 38 rfl
theorem dX4_result_155 : decode cX4_result 155 = .ok (.getfield 9, 3) := dd_all DX4_result_40_ok 39 rfl
def DX4_result_80 : List (Nat × Instr × Nat) := [(158, .iconst 0, 1), (159, .invokestatic 36, 3), (162, .ireturn, 1)]
theorem DX4_result_80_ok : ∀ q ∈ DX4_result_80, decode cX4_result q.1 = .ok (q.2.1, q.2.2) := by decide +kernel
theorem dX4_result_158 : decode cX4_result 158 = .ok (.iconst 0, 1) := dd_all DX4_result_80_ok 0 rfl
theorem dX4_result_159 : decode cX4_result 159 = .ok (.invokestatic 36, 3) := dd_all DX4_result_80_ok 1 rfl
theorem dX4_result_162 : decode cX4_result 162 = .ok (.ireturn, 1) := dd_all DX4_result_80_ok 2 rfl
def DX4_begin_0 : List (Nat × Instr × Nat) := [(0, .aload_n 0, 1), (1, .iload_n 1, 1), (2, .putfield 47, 3), (5, .aload_n 0, 1), (6, .getfield 9, 3), (9, .iload_n 1, 1), (10, .iconst 0, 1), (11, .invokestatic 50, 3), (14, .aload_n 0, 1), (15, .getfield 15, 3), (18, .iload_n 1, 1), (19, .bipush 43, 2), (21, .invokestatic 50, 3), (24, .return_, 1)]
theorem DX4_begin_0_ok : ∀ q ∈ DX4_begin_0, decode cX4_begin q.1 = .ok (q.2.1, q.2.2) := by decide +kernel
theorem dX4_begin_0 : decode cX4_begin 0 = .ok (.aload_n 0, 1) := dd_all DX4_begin_0_ok 0 rfl
theorem dX4_begin_1 : decode cX4_begin 1 = .ok (.iload_n 1, 1) := dd_all DX4_begin_0_ok 1 rfl
theorem dX4_begin_2 : decode cX4_begin 2 = .ok (.putfield 47, 3) := dd_all DX4_begin_0_ok 2 rfl
theorem dX4_begin_5 : decode cX4_begin 5 = .ok (.aload_n 0, 1) := dd_all DX4_begin_0_ok 3 rfl
theorem dX4_begin_6 : decode cX4_begin 6 = .ok (.getfield 9, 3) := dd_all DX4_begin_0_ok 4 rfl
theorem dX4_begin_9 : decode cX4_begin 9 = .ok (.iload_n 1, 1) := dd_all DX4_begin_0_ok 5 rfl
theorem dX4_begin_10 : decode cX4_begin 10 = .ok (.iconst 0, 1) := dd_all DX4_begin_0_ok 6 rfl
theorem dX4_begin_11 : decode cX4_begin 11 = .ok (.invokestatic 50, 3) := dd_all DX4_begin_0_ok 7 rfl
theorem dX4_begin_14 : decode cX4_begin 14 = .ok (.aload_n 0, 1) := dd_all DX4_begin_0_ok 8 rfl
theorem dX4_begin_15 : decode cX4_begin 15 = .ok (.getfield 15, 3) := dd_all DX4_begin_0_ok 9 rfl
theorem dX4_begin_18 : decode cX4_begin 18 = .ok (.iload_n 1, 1) := dd_all DX4_begin_0_ok 10 rfl
theorem dX4_begin_19 : decode cX4_begin 19 = .ok (.bipush 43, 2) := dd_all DX4_begin_0_ok 11 rfl
theorem dX4_begin_21 : decode cX4_begin 21 = .ok (.invokestatic 50, 3) := dd_all DX4_begin_0_ok 12 rfl
theorem dX4_begin_24 : decode cX4_begin 24 = .ok (.return_, 1) := dd_all DX4_begin_0_ok 13 rfl
def DX4_join_0 : List (Nat × Instr × Nat) := [(0, .aload_n 0, 1), (1, .getfield 9, 3), (4, .aload_n 0, 1), (5, .getfield 47, 3), (8, .invokestatic 36, 3), (11, .istore_n 2, 1), (12, .aload_n 0, 1), (13, .getfield 15, 3), (16, .aload_n 0, 1), (17, .getfield 47, 3), (20, .invokestatic 36, 3), (23, .bipush 43, 2), (25, .if_icmp .ne 9, 3), (28, .iload_n 2, 1), (29, .iload_n 1, 1), (30, .iadd, 1), (31, .goto 8, 3), (34, .iload_n 2, 1), (35, .iload_n 1, 1), (36, .invokestatic 54, 3), (39, .istore_n 3, 1), (40, .aload_n 0, 1), (41, .getfield 9, 3), (44, .aload_n 0, 1), (45, .getfield 47, 3), (48, .ldc 60, 2), (50, .iload_n 3, 1), (51, .invokestatic 61, 3), (54, .invokestatic 50, 3), (57, .return_, 1)]
theorem DX4_join_0_ok : ∀ q ∈ DX4_join_0, decode cX4_join q.1 = .ok (q.2.1, q.2.2) := by decide +kernel
theorem dX4_join_0 : decode cX4_join 0 = .ok (.aload_n 0, 1) := dd_all DX4_join_0_ok 0 rfl
theorem dX4_join_1 : decode cX4_join 1 = .ok (.getfield 9, 3) := dd_all DX4_join_0_ok 1 rfl
theorem dX4_join_4 : decode cX4_join 4 = .ok (.aload_n 0, 1) := dd_all DX4_join_0_ok 2 rfl
theorem dX4_join_5 : decode cX4_join 5 = .ok (.getfield 47, 3) := dd_all DX4_join_0_ok 3 rfl
theorem dX4_join_8 : decode cX4_join 8 = .ok (.invokestatic 36, 3) := dd_all DX4_join_0_ok 4 rfl
theorem dX4_join_11 : decode cX4_join 11 = .ok (.istore_n 2, 1) := dd_all DX4_join_0_ok 5 rfl
theorem dX4_join_12 : decode cX4_join 12 = .ok (.aload_n 0, 1) := dd_all DX4_join_0_ok 6 rfl
theorem dX4_join_13 : decode cX4_join 13 = .ok (.getfield 15, 3) := dd_all DX4_join_0_ok 7 rfl
theorem dX4_join_16 : decode cX4_join 16 = .ok (.aload_n 0, 1) := dd_all DX4_join_0_ok 8 rfl
theorem dX4_join_17 : decode cX4_join 17 = .ok (.getfield 47, 3) := dd_all DX4_join_0_ok 9 rfl
theorem dX4_join_20 : decode cX4_join 20 = .ok (.invokestatic 36, 3) := dd_all DX4_join_0_ok 10 rfl
theorem dX4_join_23 : decode cX4_join 23 = .ok (.bipush 43, 2) := dd_all DX4_join_0_ok 11 rfl
theorem dX4_join_25 : decode cX4_join 25 = .ok (.if_icmp .ne 9, 3) := dd_all DX4_join_0_ok 12 rfl
theorem dX4_join_28 : decode cX4_join 28 = .ok (.iload_n 2, 1) := dd_all DX4_join_0_ok 13 rfl
theorem dX4_join_29 : decode cX4_join 29 = .ok (.iload_n 1, 1) := dd_all DX4_join_0_ok 14 rfl
theorem dX4_join_30 : decode cX4_join 30 = .ok (.iadd, 1) := dd_all DX4_join_0_ok 15 rfl
theorem dX4_join_31 : decode cX4_join 31 = .ok (.goto 8, 3) := dd_all DX4_join_0_ok 16 rfl
theorem dX4_join_34 : decode cX4_join 34 = .ok (.iload_n 2, 1) := dd_all DX4_join_0_ok 17 rfl
theorem dX4_join_35 : decode cX4_join 35 = .ok (.iload_n 1, 1) := dd_all DX4_join_0_ok 18 rfl
theorem dX4_join_36 : decode cX4_join 36 = .ok (.invokestatic 54, 3) := dd_all DX4_join_0_ok 19 rfl
theorem dX4_join_39 : decode cX4_join 39 = .ok (.istore_n 3, 1) := dd_all DX4_join_0_ok 20 rfl
theorem dX4_join_40 : decode cX4_join 40 = .ok (.aload_n 0, 1) := dd_all DX4_join_0_ok 21 rfl
theorem dX4_join_41 : decode cX4_join 41 = .ok (.getfield 9, 3) := dd_all DX4_join_0_ok 22 rfl
theorem dX4_join_44 : decode cX4_join 44 = .ok (.aload_n 0, 1) := dd_all DX4_join_0_ok 23 rfl
theorem dX4_join_45 : decode cX4_join 45 = .ok (.getfield 47, 3) := dd_all DX4_join_0_ok 24 rfl
theorem dX4_join_48 : decode cX4_join 48 = .ok (.ldc 60, 2) := dd_all DX4_join_0_ok 25 rfl
theorem dX4_join_50 : decode cX4_join 50 = .ok (.iload_n 3, 1) := dd_all DX4_join_0_ok 26 rfl
theorem dX4_join_51 : decode cX4_join 51 = .ok (.invokestatic 61, 3) := dd_all DX4_join_0_ok 27 rfl
theorem dX4_join_54 : decode cX4_join 54 = .ok (.invokestatic 50, 3) := dd_all DX4_join_0_ok 28 rfl
theorem dX4_join_57 : decode cX4_join 57 = .ok (.return_, 1) := dd_all DX4_join_0_ok 29 rfl
def DX4_times_0 : List (Nat × Instr × Nat) := [(0, .aload_n 0, 1), (1, .iload_n 1, 1), (2, .invokevirtual 28, 3), (5, .bipush 42, 2), (7, .if_icmp .eq 5, 3), (10, .iload_n 2, 1), (11, .ireturn, 1), (12, .ldc 60, 2), (14, .iload_n 2, 1), (15, .aload_n 0, 1), (16, .iload_n 1, 1), (17, .iconst 1, 1), (18, .iadd, 1), (19, .invokevirtual 28, 3), (22, .bipush 48, 2), (24, .isub, 1), (25, .imul, 1), (26, .invokestatic 61, 3), (29, .ireturn, 1)]
theorem DX4_times_0_ok : ∀ q ∈ DX4_times_0, decode cX4_times q.1 = .ok (q.2.1, q.2.2) := by decide +kernel
theorem dX4_times_0 : decode cX4_times 0 = .ok (.aload_n 0, 1) := dd_all DX4_times_0_ok 0 rfl
theorem dX4_times_1 : decode cX4_times 1 = .ok (.iload_n 1, 1) := dd_all DX4_times_0_ok 1 rfl
theorem dX4_times_2 : decode cX4_times 2 = .ok (.invokevirtual 28, 3) := dd_all DX4_times_0_ok 2 rfl
theorem dX4_times_5 : decode cX4_times 5 = .ok (.bipush 42, 2) := dd_all DX4_times_0_ok 3 rfl
theorem dX4_times_7 : decode cX4_times 7 = .ok (.if_icmp .eq 5, 3) := dd_all DX4_times_0_ok 4 rfl
theorem dX4_times_10 : decode cX4_times 10 = .ok (.iload_n 2, 1) := dd_all DX4_times_0_ok 5 rfl
theorem dX4_times_11 : decode cX4_times 11 = .ok (.ireturn, 1) := dd_all DX4_times_0_ok 6 rfl
theorem dX4_times_12 : decode cX4_times 12 = .ok (.ldc 60, 2) := dd_all DX4_times_0_ok 7 rfl
theorem dX4_times_14 : decode cX4_times 14 = .ok (.iload_n 2, 1) := dd_all DX4_times_0_ok 8 rfl
theorem dX4_times_15 : decode cX4_times 15 = .ok (.aload_n 0, 1) := dd_all DX4_times_0_ok 9 rfl
theorem dX4_times_16 : decode cX4_times 16 = .ok (.iload_n 1, 1) := dd_all DX4_times_0_ok 10 rfl
theorem dX4_times_17 : decode cX4_times 17 = .ok (.iconst 1, 1) := dd_all DX4_times_0_ok 11 rfl
theorem dX4_times_18 : decode cX4_times 18 = .ok (.iadd, 1) := dd_all DX4_times_0_ok 12 rfl
theorem dX4_times_19 : decode cX4_times 19 = .ok (.invokevirtual 28, 3) := dd_all DX4_times_0_ok 13 rfl
theorem dX4_times_22 : decode cX4_times 22 = .ok (.bipush 48, 2) := dd_all DX4_times_0_ok 14 rfl
theorem dX4_times_24 : decode cX4_times 24 = .ok (.isub, 1) := dd_all DX4_times_0_ok 15 rfl
theorem dX4_times_25 : decode cX4_times 25 = .ok (.imul, 1) := dd_all DX4_times_0_ok 16 rfl
theorem dX4_times_26 : decode cX4_times 26 = .ok (.invokestatic 61, 3) := dd_all DX4_times_0_ok 17 rfl
theorem dX4_times_29 : decode cX4_times 29 = .ok (.ireturn, 1) := dd_all DX4_times_0_ok 18 rfl
def DX5_init_0 : List (Nat × Instr × Nat) := [(0, .aload_n 0, 1), (1, .invokespecial 3, 3), (4, .aload_n 0, 1), (5, .sipush 200, 3), (8, .newarray .int, 2), (10, .putfield 9, 3), (13, .aload_n 0, 1), (14, .sipush 200, 3), (17, .newarray .int, 2), (19, .putfield 15, 3), (22, .aload_n 0, 1), (23, .sipush 200, 3), (26, .newarray .int, 2), (28, .putfield 18, 3), (31, .aload_n 0, 1), (32, .sipush 200, 3), (35, .newarray .int, 2), (37, .putfield 21, 3), (40, .aload_n 0, 1), (41, .sipush 200, 3), (44, .newarray .int, 2), (46, .putfield 24, 3), (49, .aload_n 0, 1), (50, .sipush 200, 3), (53, .newarray .int, 2), (55, .putfield 27, 3), (58, .aload_n 0, 1), (59, .sipush 200, 3), (62, .newarray .int, 2), (64, .putfield 30, 3), (67, .return_, 1)]
theorem DX5_init_0_ok : ∀ q ∈ DX5_init_0, decode cX5_init q.1 = .ok (q.2.1, q.2.2) := by decide +kernel
theorem dX5_init_0 : decode cX5_init 0 = .ok (.aload_n 0, 1) := dd_all DX5_init_0_ok 0 rfl
theorem dX5_init_1 : decode cX5_init 1 = .ok (.invokespecial 3, 3) := dd_all DX5_init_0_ok 1 rfl
theorem dX5_init_4 : decode cX5_init 4 = .ok (.aload_n 0, 1) := dd_all DX5_init_0_ok 2 rfl
theorem dX5_init_5 : decode cX5_init 5 = .ok (.sipush 200, 3) := dd_all DX5_init_0_ok 3 rfl
theorem dX5_init_8 : decode cX5_init 8 = .ok (.newarray .int, 2) := dd_all DX5_init_0_ok 4 rfl
theorem dX5_init_10 : decode cX5_init 10 = .ok (.putfield 9, 3) := dd_all DX5_init_0_ok 5 rfl
theorem dX5_init_13 : decode cX5_init 13 = .ok (.aload_n 0, 1) := dd_all DX5_init_0_ok 6 rfl
theorem dX5_init_14 : decode cX5_init 14 = .ok (.sipush 200, 3) := dd_all DX5_init_0_ok 7 rfl
theorem dX5_init_17 : decode cX5_init 17 = .ok (.newarray .int, 2) := dd_all DX5_init_0_ok 8 rfl
theorem dX5_init_19 : decode cX5_init 19 = .ok (.putfield 15, 3) := dd_all DX5_init_0_ok 9 rfl
theorem dX5_init_22 : decode cX5_init 22 = .ok (.aload_n 0, 1) := dd_all DX5_init_0_ok 10 rfl
theorem dX5_init_23 : decode cX5_init 23 = .ok (.sipush 200, 3) := dd_all DX5_init_0_ok 11 rfl
theorem dX5_init_26 : decode cX5_init 26 = .ok (.newarray .int, 2) := dd_all DX5_init_0_ok 12 rfl
theorem dX5_init_28 : decode cX5_init 28 = .ok (.putfield 18, 3) := dd_all DX5_init_0_ok 13 rfl
theorem dX5_init_31 : decode cX5_init 31 = .ok (.aload_n 0, 1) := dd_all DX5_init_0_ok 14 rfl
theorem dX5_init_32 : decode cX5_init 32 = .ok (.sipush 200, 3) := dd_all DX5_init_0_ok 15 rfl
theorem dX5_init_35 : decode cX5_init 35 = .ok (.newarray .int, 2) := dd_all DX5_init_0_ok 16 rfl
theorem dX5_init_37 : decode cX5_init 37 = .ok (.putfield 21, 3) := dd_all DX5_init_0_ok 17 rfl
theorem dX5_init_40 : decode cX5_init 40 = .ok (.aload_n 0, 1) := dd_all DX5_init_0_ok 18 rfl
theorem dX5_init_41 : decode cX5_init 41 = .ok (.sipush 200, 3) := dd_all DX5_init_0_ok 19 rfl
theorem dX5_init_44 : decode cX5_init 44 = .ok (.newarray .int, 2) := dd_all DX5_init_0_ok 20 rfl
theorem dX5_init_46 : decode cX5_init 46 = .ok (.putfield 24, 3) := dd_all DX5_init_0_ok 21 rfl
theorem dX5_init_49 : decode cX5_init 49 = .ok (.aload_n 0, 1) := dd_all DX5_init_0_ok 22 rfl
theorem dX5_init_50 : decode cX5_init 50 = .ok (.sipush 200, 3) := dd_all DX5_init_0_ok 23 rfl
theorem dX5_init_53 : decode cX5_init 53 = .ok (.newarray .int, 2) := dd_all DX5_init_0_ok 24 rfl
theorem dX5_init_55 : decode cX5_init 55 = .ok (.putfield 27, 3) := dd_all DX5_init_0_ok 25 rfl
theorem dX5_init_58 : decode cX5_init 58 = .ok (.aload_n 0, 1) := dd_all DX5_init_0_ok 26 rfl
theorem dX5_init_59 : decode cX5_init 59 = .ok (.sipush 200, 3) := dd_all DX5_init_0_ok 27 rfl
theorem dX5_init_62 : decode cX5_init 62 = .ok (.newarray .int, 2) := dd_all DX5_init_0_ok 28 rfl
theorem dX5_init_64 : decode cX5_init 64 = .ok (.putfield 30, 3) := dd_all DX5_init_0_ok 29 rfl
theorem dX5_init_67 : decode cX5_init 67 = .ok (.return_, 1) := dd_all DX5_init_0_ok 30 rfl
def DX5_append_0 : List (Nat × Instr × Nat) := [(0, .aload_n 0, 1), (1, .getfield 33, 3), (4, .istore 4, 2), (6, .aload_n 0, 1), (7, .getfield 9, 3), (10, .iload 4, 2), (12, .iload_n 1, 1), (13, .invokestatic 37, 3), (16, .aload_n 0, 1), (17, .getfield 15, 3), (20, .iload 4, 2), (22, .iload_n 2, 1), (23, .invokestatic 37, 3), (26, .aload_n 0, 1), (27, .getfield 18, 3), (30, .iload 4, 2), (32, .iload_n 3, 1), (33, .invokestatic 37, 3), (36, .aload_n 0, 1), (37, .getfield 21, 3), (40, .iload 4, 2), (42, .iconst 0, 1), (43, .invokestatic 37, 3), (46, .aload_n 0, 1), (47, .getfield 24, 3), (50, .iload 4, 2), (52, .iconst 0, 1), (53, .invokestatic 37, 3), (56, .aload_n 0, 1), (57, .getfield 27, 3), (60, .iload 4, 2), (62, .iconst 0, 1), (63, .invokestatic 37, 3), (66, .aload_n 0, 1), (67, .getfield 30, 3), (70, .iload 4, 2), (72, .iconst 0, 1), (73, .invokestatic 37, 3), (76, .aload_n 0, 1), (77, .dup, 1)]
theorem DX5_append_0_ok : ∀ q ∈ DX5_append_0, decode cX5_append q.1 = .ok (q.2.1, q.2.2) := by decide +kernel
theorem dX5_append_0 : decode cX5_append 0 = .ok (.aload_n 0, 1) := dd_all DX5_append_0_ok 0 rfl
theorem dX5_append_1 : decode cX5_append 1 = .ok (.getfield 33, 3) := dd_all DX5_append_0_ok 1 rfl
theorem dX5_append_4 : decode cX5_append 4 = .ok (.istore 4, 2) := dd_all DX5_append_0_ok 2 rfl
theorem dX5_append_6 : decode cX5_append 6 = .ok (.aload_n 0, 1) := dd_all DX5_append_0_ok 3 rfl
theorem dX5_append_7 : decode cX5_append 7 = .ok (.getfield 9, 3) := dd_all DX5_append_0_ok 4 rfl
theorem dX5_append_10 : decode cX5_append 10 = .ok (.iload 4, 2) := dd_all DX5_append_0_ok 5 rfl
theorem dX5_append_12 : decode cX5_append 12 = .ok (.iload_n 1, 1) := dd_all DX5_append_0_ok 6 rfl
theorem dX5_append_13 : decode cX5_append 13 = .ok (.invokestatic 37, 3) := dd_all DX5_append_0_ok 7 rfl
theorem dX5_append_16 : decode cX5_append 16 = .ok (.aload_n 0, 1) := dd_all DX5_append_0_ok 8 rfl
theorem dX5_append_17 : decode cX5_append 17 = .ok (.getfield 15, 3) := dd_all DX5_append_0_ok 9 rfl
theorem dX5_append_20 : decode cX5_append 20 = .ok (.iload 4, 2) := dd_all DX5_append_0_ok 10 rfl
theorem dX5_append_22 : decode cX5_append 22 = .ok (.iload_n 2, 1) := dd_all DX5_append_0_ok 11 rfl
theorem dX5_append_23 : decode cX5_append 23 = .ok (.invokestatic 37, 3) := dd_all DX5_append_0_ok 12 rfl
theorem dX5_append_26 : decode cX5_append 26 = .ok (.aload_n 0, 1) := dd_all DX5_append_0_ok 13 rfl
theorem dX5_append_27 : decode cX5_append 27 = .ok (.getfield 18, 3) := dd_all DX5_append_0_ok 14 rfl
theorem dX5_append_30 : decode cX5_append 30 = .ok (.iload 4, 2) := dd_all DX5_append_0_ok 15 rfl
theorem dX5_append_32 : decode cX5_append 32 = .ok (.iload_n 3, 1) := dd_all DX5_append_0_ok 16 rfl
theorem dX5_append_33 : decode cX5_append 33 = .ok (.invokestatic 37, 3) := dd_all DX5_append_0_ok 17 rfl
theorem dX5_append_36 : decode cX5_append 36 = .ok (.aload_n 0, 1) := dd_all DX5_append_0_ok 18 rfl
theorem dX5_append_37 : decode cX5_append 37 = .ok (.getfield 21, 3) := dd_all DX5_append_0_ok 19 rfl
theorem dX5_append_40 : decode cX5_append 40 = .ok (.iload 4, 2) := dd_all DX5_append_0_ok 20 rfl
theorem dX5_append_42 : decode cX5_append 42 = .ok (.iconst 0, 1) := dd_all DX5_append_0_ok 21 rfl
theorem dX5_append_43 : decode cX5_append 43 = .ok (.invokestatic 37, 3) := dd_all DX5_append_0_ok 22 rfl
theorem dX5_append_46 : decode cX5_append 46 = .ok (.aload_n 0, 1) := dd_all DX5_append_0_ok 23 rfl
theorem dX5_append_47 : decode cX5_append 47 = .ok (.getfield 24, 3) := dd_all DX5_append_0_ok 24 rfl
theorem dX5_append_50 : decode cX5_append 50 = .ok (.iload 4, 2) := dd_all DX5_append_0_ok 25 rfl
theorem dX5_append_52 : decode cX5_append 52 = .ok (.iconst 0, 1) := dd_all DX5_append_0_ok 26 rfl
theorem dX5_append_53 : decode cX5_append 53 = .ok (.invokestatic 37, 3) := dd_all DX5_append_0_ok 27 rfl
theorem dX5_append_56 : decode cX5_append 56 = .ok (.aload_n 0, 1) := dd_all DX5_append_0_ok 28 rfl
theorem dX5_append_57 : decode cX5_append 57 = .ok (.getfield 27, 3) := dd_all DX5_append_0_ok 29 rfl
theorem dX5_append_60 : decode cX5_append 60 = .ok (.iload 4, 2) := dd_all DX5_append_0_ok 30 rfl
theorem dX5_append_62 : decode cX5_append 62 = .ok (.iconst 0, 1) := dd_all DX5_append_0_ok 31 rfl
theorem dX5_append_63 : decode cX5_append 63 = .ok (.invokestatic 37, 3) := dd_all DX5_append_0_ok 32 rfl
theorem dX5_append_66 : decode cX5_append 66 = .ok (.aload_n 0, 1) := dd_all DX5_append_0_ok 33 rfl
theorem dX5_append_67 : decode cX5_append 67 = .ok (.getfield 30, 3) := dd_all DX5_append_0_ok 34 rfl
theorem dX5_append_70 : decode cX5_append 70 = .ok (.iload 4, 2) := dd_all DX5_append_0_ok 35 rfl
theorem dX5_append_72 : decode cX5_append 72 = .ok (.iconst 0, 1) := dd_all DX5_append_0_ok 36 rfl
theorem dX5_append_73 : decode cX5_append 73 = .ok (.invokestatic 37, 3) := dd_all DX5_append_0_ok 37 rfl
theorem dX5_append_76 : decode cX5_append 76 = .ok (.aload_n 0, 1) := dd_all DX5_append_0_ok 38 rfl
theorem dX5_append_77 : decode cX5_append 77 = .ok (.dup, 1) := dd_all DX5_append_0_ok 39 rfl
def DX5_append_40 : List (Nat × Instr × Nat) := [(78, .getfield 33, 3), (81, .iconst 1, 1), (82, .iadd, 1), (83, .putfield 33, 3), (86, .iload 4, 2), (88, .ireturn, 1)]
theorem DX5_append_40_ok : ∀ q ∈ DX5_append_40, decode cX5_append q.1 = .ok (q.2.1, q.2.2) := by decide +kernel
theorem dX5_append_78 : decode cX5_append 78 = .ok (.getfield 33, 3) := dd_all DX5_append_40_ok 0 rfl
theorem dX5_append_81 : decode cX5_append 81 = .ok (.iconst 1, 1) := dd_all DX5_append_40_ok 1 rfl
theorem dX5_append_82 : decode cX5_append 82 = .ok (.iadd, 1) := dd_all DX5_append_40_ok 2 rfl
theorem dX5_append_83 : decode cX5_append 83 = .ok (.putfield 33, 3) := dd_all DX5_append_40_ok 3 rfl
theorem dX5_append_86 : decode cX5_append 86 = .ok (.iload 4, 2) := dd_all DX5_append_40_ok 4 rfl
theorem dX5_append_88 : decode cX5_append 88 = .ok (.ireturn, 1) := dd_all DX5_append_40_ok 5 rfl
def DX5_sings_0 : List (Nat × Instr × Nat) := [(0, .aload_n 0, 1), (1, .getfield 21, 3), (4, .iload_n 1, 1), (5, .invokestatic 41, 3), (8, .istore_n 2, 1), (9, .iload_n 2, 1), (10, .ifCond .eq 13, 3), (13, .iload_n 2, 1), (14, .bipush 6, 2), (16, .if_icmp .eq 7, 3), (19, .iconst 1, 1), (20, .goto 4, 3), (23, .iconst 0, 1), (24, .ireturn, 1)]
theorem DX5_sings_0_ok : ∀ q ∈ DX5_sings_0, decode cX5_sings q.1 = .ok (q.2.1, q.2.2) := by decide +kernel
theorem dX5_sings_0 : decode cX5_sings 0 = .ok (.aload_n 0, 1) := dd_all DX5_sings_0_ok 0 rfl
theorem dX5_sings_1 : decode cX5_sings 1 = .ok (.getfield 21, 3) := dd_all DX5_sings_0_ok 1 rfl
theorem dX5_sings_4 : decode cX5_sings 4 = .ok (.iload_n 1, 1) := dd_all DX5_sings_0_ok 2 rfl
theorem dX5_sings_5 : decode cX5_sings 5 = .ok (.invokestatic 41, 3) := dd_all DX5_sings_0_ok 3 rfl
theorem dX5_sings_8 : decode cX5_sings 8 = .ok (.istore_n 2, 1) := dd_all DX5_sings_0_ok 4 rfl
theorem dX5_sings_9 : decode cX5_sings 9 = .ok (.iload_n 2, 1) := dd_all DX5_sings_0_ok 5 rfl
theorem dX5_sings_10 : decode cX5_sings 10 = .ok (.ifCond .eq 13, 3) := dd_all DX5_sings_0_ok 6 rfl
theorem dX5_sings_13 : decode cX5_sings 13 = .ok (.iload_n 2, 1) := dd_all DX5_sings_0_ok 7 rfl
theorem dX5_sings_14 : decode cX5_sings 14 = .ok (.bipush 6, 2) := dd_all DX5_sings_0_ok 8 rfl
theorem dX5_sings_16 : decode cX5_sings 16 = .ok (.if_icmp .eq 7, 3) := dd_all DX5_sings_0_ok 9 rfl
theorem dX5_sings_19 : decode cX5_sings 19 = .ok (.iconst 1, 1) := dd_all DX5_sings_0_ok 10 rfl
theorem dX5_sings_20 : decode cX5_sings 20 = .ok (.goto 4, 3) := dd_all DX5_sings_0_ok 11 rfl
theorem dX5_sings_23 : decode cX5_sings 23 = .ok (.iconst 0, 1) := dd_all DX5_sings_0_ok 12 rfl
theorem dX5_sings_24 : decode cX5_sings 24 = .ok (.ireturn, 1) := dd_all DX5_sings_0_ok 13 rfl
def DX5_is_0 : List (Nat × Instr × Nat) := [(0, .aload_n 0, 1), (1, .getfield 9, 3), (4, .iload_n 1, 1), (5, .invokestatic 41, 3), (8, .iload_n 2, 1), (9, .if_icmp .ne 19, 3), (12, .aload_n 0, 1), (13, .getfield 15, 3), (16, .iload_n 1, 1), (17, .invokestatic 41, 3), (20, .iload_n 3, 1), (21, .if_icmp .ne 7, 3), (24, .iconst 1, 1), (25, .goto 4, 3), (28, .iconst 0, 1), (29, .ireturn, 1)]
theorem DX5_is_0_ok : ∀ q ∈ DX5_is_0, decode cX5_is q.1 = .ok (q.2.1, q.2.2) := by decide +kernel
theorem dX5_is_0 : decode cX5_is 0 = .ok (.aload_n 0, 1) := dd_all DX5_is_0_ok 0 rfl
theorem dX5_is_1 : decode cX5_is 1 = .ok (.getfield 9, 3) := dd_all DX5_is_0_ok 1 rfl
theorem dX5_is_4 : decode cX5_is 4 = .ok (.iload_n 1, 1) := dd_all DX5_is_0_ok 2 rfl
theorem dX5_is_5 : decode cX5_is 5 = .ok (.invokestatic 41, 3) := dd_all DX5_is_0_ok 3 rfl
theorem dX5_is_8 : decode cX5_is 8 = .ok (.iload_n 2, 1) := dd_all DX5_is_0_ok 4 rfl
theorem dX5_is_9 : decode cX5_is 9 = .ok (.if_icmp .ne 19, 3) := dd_all DX5_is_0_ok 5 rfl
theorem dX5_is_12 : decode cX5_is 12 = .ok (.aload_n 0, 1) := dd_all DX5_is_0_ok 6 rfl
theorem dX5_is_13 : decode cX5_is 13 = .ok (.getfield 15, 3) := dd_all DX5_is_0_ok 7 rfl
theorem dX5_is_16 : decode cX5_is 16 = .ok (.iload_n 1, 1) := dd_all DX5_is_0_ok 8 rfl
theorem dX5_is_17 : decode cX5_is 17 = .ok (.invokestatic 41, 3) := dd_all DX5_is_0_ok 9 rfl
theorem dX5_is_20 : decode cX5_is 20 = .ok (.iload_n 3, 1) := dd_all DX5_is_0_ok 10 rfl
theorem dX5_is_21 : decode cX5_is 21 = .ok (.if_icmp .ne 7, 3) := dd_all DX5_is_0_ok 11 rfl
theorem dX5_is_24 : decode cX5_is 24 = .ok (.iconst 1, 1) := dd_all DX5_is_0_ok 12 rfl
theorem dX5_is_25 : decode cX5_is 25 = .ok (.goto 4, 3) := dd_all DX5_is_0_ok 13 rfl
theorem dX5_is_28 : decode cX5_is 28 = .ok (.iconst 0, 1) := dd_all DX5_is_0_ok 14 rfl
theorem dX5_is_29 : decode cX5_is 29 = .ok (.ireturn, 1) := dd_all DX5_is_0_ok 15 rfl
def DX5_top_0 : List (Nat × Instr × Nat) := [(0, .bipush 8, 2), (2, .aload_n 0, 1), (3, .getfield 18, 3), (6, .iload_n 1, 1), (7, .invokestatic 41, 3), (10, .imul, 1), (11, .ireturn, 1)]
theorem DX5_top_0_ok : ∀ q ∈ DX5_top_0, decode cX5_top q.1 = .ok (q.2.1, q.2.2) := by decide +kernel
theorem dX5_top_0 : decode cX5_top 0 = .ok (.bipush 8, 2) := dd_all DX5_top_0_ok 0 rfl
theorem dX5_top_2 : decode cX5_top 2 = .ok (.aload_n 0, 1) := dd_all DX5_top_0_ok 1 rfl
theorem dX5_top_3 : decode cX5_top 3 = .ok (.getfield 18, 3) := dd_all DX5_top_0_ok 2 rfl
theorem dX5_top_6 : decode cX5_top 6 = .ok (.iload_n 1, 1) := dd_all DX5_top_0_ok 3 rfl
theorem dX5_top_7 : decode cX5_top 7 = .ok (.invokestatic 41, 3) := dd_all DX5_top_0_ok 4 rfl
theorem dX5_top_10 : decode cX5_top 10 = .ok (.imul, 1) := dd_all DX5_top_0_ok 5 rfl
theorem dX5_top_11 : decode cX5_top 11 = .ok (.ireturn, 1) := dd_all DX5_top_0_ok 6 rfl
def DX5_rest_0 : List (Nat × Instr × Nat) := [(0, .iload_n 2, 1), (1, .getstatic 45, 3), (4, .aload_n 0, 1), (5, .getfield 9, 3), (8, .iload_n 1, 1), (9, .invokestatic 41, 3), (12, .invokestatic 41, 3), (15, .imul, 1), (16, .sipush 1000, 3), (19, .idiv, 1), (20, .ireturn, 1)]
theorem DX5_rest_0_ok : ∀ q ∈ DX5_rest_0, decode cX5_rest q.1 = .ok (q.2.1, q.2.2) := by decide +kernel
theorem dX5_rest_0 : decode cX5_rest 0 = .ok (.iload_n 2, 1) := dd_all DX5_rest_0_ok 0 rfl
theorem dX5_rest_1 : decode cX5_rest 1 = .ok (.getstatic 45, 3) := dd_all DX5_rest_0_ok 1 rfl
theorem dX5_rest_4 : decode cX5_rest 4 = .ok (.aload_n 0, 1) := dd_all DX5_rest_0_ok 2 rfl
theorem dX5_rest_5 : decode cX5_rest 5 = .ok (.getfield 9, 3) := dd_all DX5_rest_0_ok 3 rfl
theorem dX5_rest_8 : decode cX5_rest 8 = .ok (.iload_n 1, 1) := dd_all DX5_rest_0_ok 4 rfl
theorem dX5_rest_9 : decode cX5_rest 9 = .ok (.invokestatic 41, 3) := dd_all DX5_rest_0_ok 5 rfl
theorem dX5_rest_12 : decode cX5_rest 12 = .ok (.invokestatic 41, 3) := dd_all DX5_rest_0_ok 6 rfl
theorem dX5_rest_15 : decode cX5_rest 15 = .ok (.imul, 1) := dd_all DX5_rest_0_ok 7 rfl
theorem dX5_rest_16 : decode cX5_rest 16 = .ok (.sipush 1000, 3) := dd_all DX5_rest_0_ok 8 rfl
theorem dX5_rest_19 : decode cX5_rest 19 = .ok (.idiv, 1) := dd_all DX5_rest_0_ok 9 rfl
theorem dX5_rest_20 : decode cX5_rest 20 = .ok (.ireturn, 1) := dd_all DX5_rest_0_ok 10 rfl
def DX5_startOver_0 : List (Nat × Instr × Nat) := [(0, .aload_n 0, 1), (1, .getfield 18, 3), (4, .iload_n 1, 1), (5, .iload_n 2, 1), (6, .invokestatic 37, 3), (9, .aload_n 0, 1), (10, .getfield 30, 3), (13, .iload_n 1, 1), (14, .iconst 0, 1), (15, .invokestatic 37, 3), (18, .aload_n 0, 1), (19, .getfield 21, 3), (22, .iload_n 1, 1), (23, .aload_n 0, 1), (24, .getfield 24, 3), (27, .iload_n 1, 1), (28, .invokestatic 41, 3), (31, .aload_n 0, 1), (32, .iload_n 1, 1), (33, .invokevirtual 48, 3), (36, .if_icmp .lt 7, 3), (39, .iconst 2, 1), (40, .goto 4, 3), (43, .iconst 1, 1), (44, .invokestatic 37, 3), (47, .return_, 1)]
theorem DX5_startOver_0_ok : ∀ q ∈ DX5_startOver_0, decode cX5_startOver q.1 = .ok (q.2.1, q.2.2) := by decide +kernel
theorem dX5_startOver_0 : decode cX5_startOver 0 = .ok (.aload_n 0, 1) := dd_all DX5_startOver_0_ok 0 rfl
theorem dX5_startOver_1 : decode cX5_startOver 1 = .ok (.getfield 18, 3) := dd_all DX5_startOver_0_ok 1 rfl
theorem dX5_startOver_4 : decode cX5_startOver 4 = .ok (.iload_n 1, 1) := dd_all DX5_startOver_0_ok 2 rfl
theorem dX5_startOver_5 : decode cX5_startOver 5 = .ok (.iload_n 2, 1) := dd_all DX5_startOver_0_ok 3 rfl
theorem dX5_startOver_6 : decode cX5_startOver 6 = .ok (.invokestatic 37, 3) := dd_all DX5_startOver_0_ok 4 rfl
theorem dX5_startOver_9 : decode cX5_startOver 9 = .ok (.aload_n 0, 1) := dd_all DX5_startOver_0_ok 5 rfl
theorem dX5_startOver_10 : decode cX5_startOver 10 = .ok (.getfield 30, 3) := dd_all DX5_startOver_0_ok 6 rfl
theorem dX5_startOver_13 : decode cX5_startOver 13 = .ok (.iload_n 1, 1) := dd_all DX5_startOver_0_ok 7 rfl
theorem dX5_startOver_14 : decode cX5_startOver 14 = .ok (.iconst 0, 1) := dd_all DX5_startOver_0_ok 8 rfl
theorem dX5_startOver_15 : decode cX5_startOver 15 = .ok (.invokestatic 37, 3) := dd_all DX5_startOver_0_ok 9 rfl
theorem dX5_startOver_18 : decode cX5_startOver 18 = .ok (.aload_n 0, 1) := dd_all DX5_startOver_0_ok 10 rfl
theorem dX5_startOver_19 : decode cX5_startOver 19 = .ok (.getfield 21, 3) := dd_all DX5_startOver_0_ok 11 rfl
theorem dX5_startOver_22 : decode cX5_startOver 22 = .ok (.iload_n 1, 1) := dd_all DX5_startOver_0_ok 12 rfl
theorem dX5_startOver_23 : decode cX5_startOver 23 = .ok (.aload_n 0, 1) := dd_all DX5_startOver_0_ok 13 rfl
theorem dX5_startOver_24 : decode cX5_startOver 24 = .ok (.getfield 24, 3) := dd_all DX5_startOver_0_ok 14 rfl
theorem dX5_startOver_27 : decode cX5_startOver 27 = .ok (.iload_n 1, 1) := dd_all DX5_startOver_0_ok 15 rfl
theorem dX5_startOver_28 : decode cX5_startOver 28 = .ok (.invokestatic 41, 3) := dd_all DX5_startOver_0_ok 16 rfl
theorem dX5_startOver_31 : decode cX5_startOver 31 = .ok (.aload_n 0, 1) := dd_all DX5_startOver_0_ok 17 rfl
theorem dX5_startOver_32 : decode cX5_startOver 32 = .ok (.iload_n 1, 1) := dd_all DX5_startOver_0_ok 18 rfl
theorem dX5_startOver_33 : decode cX5_startOver 33 = .ok (.invokevirtual 48, 3) := dd_all DX5_startOver_0_ok 19 rfl
theorem dX5_startOver_36 : decode cX5_startOver 36 = .ok (.if_icmp .lt 7, 3) := dd_all DX5_startOver_0_ok 20 rfl
theorem dX5_startOver_39 : decode cX5_startOver 39 = .ok (.iconst 2, 1) := dd_all DX5_startOver_0_ok 21 rfl
theorem dX5_startOver_40 : decode cX5_startOver 40 = .ok (.goto 4, 3) := dd_all DX5_startOver_0_ok 22 rfl
theorem dX5_startOver_43 : decode cX5_startOver 43 = .ok (.iconst 1, 1) := dd_all DX5_startOver_0_ok 23 rfl
theorem dX5_startOver_44 : decode cX5_startOver 44 = .ok (.invokestatic 37, 3) := dd_all DX5_startOver_0_ok 24 rfl
theorem dX5_startOver_47 : decode cX5_startOver 47 = .ok (.return_, 1) := dd_all DX5_startOver_0_ok 25 rfl
def DX5_startDown_0 : List (Nat × Instr × Nat) := [(0, .aload_n 0, 1), (1, .getfield 21, 3), (4, .iload_n 1, 1), (5, .iload_n 2, 1), (6, .invokestatic 37, 3), (9, .aload_n 0, 1), (10, .getfield 27, 3), (13, .iload_n 1, 1), (14, .aload_n 0, 1), (15, .getfield 24, 3), (18, .iload_n 1, 1), (19, .invokestatic 41, 3), (22, .invokestatic 37, 3), (25, .aload_n 0, 1), (26, .getfield 30, 3), (29, .iload_n 1, 1), (30, .iconst 0, 1), (31, .invokestatic 37, 3), (34, .return_, 1)]
theorem DX5_startDown_0_ok : ∀ q ∈ DX5_startDown_0, decode cX5_startDown q.1 = .ok (q.2.1, q.2.2) := by decide +kernel
theorem dX5_startDown_0 : decode cX5_startDown 0 = .ok (.aload_n 0, 1) := dd_all DX5_startDown_0_ok 0 rfl
theorem dX5_startDown_1 : decode cX5_startDown 1 = .ok (.getfield 21, 3) := dd_all DX5_startDown_0_ok 1 rfl
theorem dX5_startDown_4 : decode cX5_startDown 4 = .ok (.iload_n 1, 1) := dd_all DX5_startDown_0_ok 2 rfl
theorem dX5_startDown_5 : decode cX5_startDown 5 = .ok (.iload_n 2, 1) := dd_all DX5_startDown_0_ok 3 rfl
theorem dX5_startDown_6 : decode cX5_startDown 6 = .ok (.invokestatic 37, 3) := dd_all DX5_startDown_0_ok 4 rfl
theorem dX5_startDown_9 : decode cX5_startDown 9 = .ok (.aload_n 0, 1) := dd_all DX5_startDown_0_ok 5 rfl
theorem dX5_startDown_10 : decode cX5_startDown 10 = .ok (.getfield 27, 3) := dd_all DX5_startDown_0_ok 6 rfl
theorem dX5_startDown_13 : decode cX5_startDown 13 = .ok (.iload_n 1, 1) := dd_all DX5_startDown_0_ok 7 rfl
theorem dX5_startDown_14 : decode cX5_startDown 14 = .ok (.aload_n 0, 1) := dd_all DX5_startDown_0_ok 8 rfl
theorem dX5_startDown_15 : decode cX5_startDown 15 = .ok (.getfield 24, 3) := dd_all DX5_startDown_0_ok 9 rfl
theorem dX5_startDown_18 : decode cX5_startDown 18 = .ok (.iload_n 1, 1) := dd_all DX5_startDown_0_ok 10 rfl
theorem dX5_startDown_19 : decode cX5_startDown 19 = .ok (.invokestatic 41, 3) := dd_all DX5_startDown_0_ok 11 rfl
theorem dX5_startDown_22 : decode cX5_startDown 22 = .ok (.invokestatic 37, 3) := dd_all DX5_startDown_0_ok 12 rfl
theorem dX5_startDown_25 : decode cX5_startDown 25 = .ok (.aload_n 0, 1) := dd_all DX5_startDown_0_ok 13 rfl
theorem dX5_startDown_26 : decode cX5_startDown 26 = .ok (.getfield 30, 3) := dd_all DX5_startDown_0_ok 14 rfl
theorem dX5_startDown_29 : decode cX5_startDown 29 = .ok (.iload_n 1, 1) := dd_all DX5_startDown_0_ok 15 rfl
theorem dX5_startDown_30 : decode cX5_startDown 30 = .ok (.iconst 0, 1) := dd_all DX5_startDown_0_ok 16 rfl
theorem dX5_startDown_31 : decode cX5_startDown 31 = .ok (.invokestatic 37, 3) := dd_all DX5_startDown_0_ok 17 rfl
theorem dX5_startDown_34 : decode cX5_startDown 34 = .ok (.return_, 1) := dd_all DX5_startDown_0_ok 18 rfl
def DX5_end_0 : List (Nat × Instr × Nat) := [(0, .aload_n 0, 1), (1, .getfield 21, 3), (4, .iload_n 1, 1), (5, .bipush 6, 2), (7, .invokestatic 37, 3), (10, .return_, 1)]
theorem DX5_end_0_ok : ∀ q ∈ DX5_end_0, decode cX5_end q.1 = .ok (q.2.1, q.2.2) := by decide +kernel
theorem dX5_end_0 : decode cX5_end 0 = .ok (.aload_n 0, 1) := dd_all DX5_end_0_ok 0 rfl
theorem dX5_end_1 : decode cX5_end 1 = .ok (.getfield 21, 3) := dd_all DX5_end_0_ok 1 rfl
theorem dX5_end_4 : decode cX5_end 4 = .ok (.iload_n 1, 1) := dd_all DX5_end_0_ok 2 rfl
theorem dX5_end_5 : decode cX5_end 5 = .ok (.bipush 6, 2) := dd_all DX5_end_0_ok 3 rfl
theorem dX5_end_7 : decode cX5_end 7 = .ok (.invokestatic 37, 3) := dd_all DX5_end_0_ok 4 rfl
theorem dX5_end_10 : decode cX5_end 10 = .ok (.return_, 1) := dd_all DX5_end_0_ok 5 rfl
def DX5_move_0 : List (Nat × Instr × Nat) := [(0, .aload_n 0, 1), (1, .getfield 21, 3), (4, .iload_n 1, 1), (5, .invokestatic 41, 3), (8, .tableswitch 83 1 5 #[36, 44, 83, 52, 74], 36), (44, .aload_n 0, 1), (45, .iload_n 1, 1), (46, .invokevirtual 52, 3), (49, .goto 42, 3), (52, .aload_n 0, 1), (53, .iload_n 1, 1), (54, .invokevirtual 56, 3), (57, .goto 34, 3), (60, .aload_n 0, 1), (61, .iload_n 1, 1), (62, .getstatic 59, 3), (65, .aload_n 0, 1), (66, .getfield 9, 3), (69, .iload_n 1, 1), (70, .invokestatic 41, 3), (73, .invokestatic 41, 3), (76, .invokevirtual 62, 3), (79, .goto 12, 3), (82, .aload_n 0, 1), (83, .iload_n 1, 1), (84, .iconst 3, 1), (85, .invokevirtual 62, 3), (88, .goto 3, 3), (91, .return_, 1)]
theorem DX5_move_0_ok : ∀ q ∈ DX5_move_0, decode cX5_move q.1 = .ok (q.2.1, q.2.2) := by decide +kernel
theorem dX5_move_0 : decode cX5_move 0 = .ok (.aload_n 0, 1) := dd_all DX5_move_0_ok 0 rfl
theorem dX5_move_1 : decode cX5_move 1 = .ok (.getfield 21, 3) := dd_all DX5_move_0_ok 1 rfl
theorem dX5_move_4 : decode cX5_move 4 = .ok (.iload_n 1, 1) := dd_all DX5_move_0_ok 2 rfl
theorem dX5_move_5 : decode cX5_move 5 = .ok (.invokestatic 41, 3) := dd_all DX5_move_0_ok 3 rfl
theorem dX5_move_8 : decode cX5_move 8 = .ok (.tableswitch 83 1 5 #[36, 44, 83, 52, 74], 36) := dd_all DX5_move_0_ok 4 rfl
theorem dX5_move_44 : decode cX5_move 44 = .ok (.aload_n 0, 1) := dd_all DX5_move_0_ok 5 rfl
theorem dX5_move_45 : decode cX5_move 45 = .ok (.iload_n 1, 1) := dd_all DX5_move_0_ok 6 rfl
theorem dX5_move_46 : decode cX5_move 46 = .ok (.invokevirtual 52, 3) := dd_all DX5_move_0_ok 7 rfl
theorem dX5_move_49 : decode cX5_move 49 = .ok (.goto 42, 3) := dd_all DX5_move_0_ok 8 rfl
theorem dX5_move_52 : decode cX5_move 52 = .ok (.aload_n 0, 1) := dd_all DX5_move_0_ok 9 rfl
theorem dX5_move_53 : decode cX5_move 53 = .ok (.iload_n 1, 1) := dd_all DX5_move_0_ok 10 rfl
theorem dX5_move_54 : decode cX5_move 54 = .ok (.invokevirtual 56, 3) := dd_all DX5_move_0_ok 11 rfl
theorem dX5_move_57 : decode cX5_move 57 = .ok (.goto 34, 3) := dd_all DX5_move_0_ok 12 rfl
theorem dX5_move_60 : decode cX5_move 60 = .ok (.aload_n 0, 1) := dd_all DX5_move_0_ok 13 rfl
theorem dX5_move_61 : decode cX5_move 61 = .ok (.iload_n 1, 1) := dd_all DX5_move_0_ok 14 rfl
theorem dX5_move_62 : decode cX5_move 62 = .ok (.getstatic 59, 3) := dd_all DX5_move_0_ok 15 rfl
theorem dX5_move_65 : decode cX5_move 65 = .ok (.aload_n 0, 1) := dd_all DX5_move_0_ok 16 rfl
theorem dX5_move_66 : decode cX5_move 66 = .ok (.getfield 9, 3) := dd_all DX5_move_0_ok 17 rfl
theorem dX5_move_69 : decode cX5_move 69 = .ok (.iload_n 1, 1) := dd_all DX5_move_0_ok 18 rfl
theorem dX5_move_70 : decode cX5_move 70 = .ok (.invokestatic 41, 3) := dd_all DX5_move_0_ok 19 rfl
theorem dX5_move_73 : decode cX5_move 73 = .ok (.invokestatic 41, 3) := dd_all DX5_move_0_ok 20 rfl
theorem dX5_move_76 : decode cX5_move 76 = .ok (.invokevirtual 62, 3) := dd_all DX5_move_0_ok 21 rfl
theorem dX5_move_79 : decode cX5_move 79 = .ok (.goto 12, 3) := dd_all DX5_move_0_ok 22 rfl
theorem dX5_move_82 : decode cX5_move 82 = .ok (.aload_n 0, 1) := dd_all DX5_move_0_ok 23 rfl
theorem dX5_move_83 : decode cX5_move 83 = .ok (.iload_n 1, 1) := dd_all DX5_move_0_ok 24 rfl
theorem dX5_move_84 : decode cX5_move 84 = .ok (.iconst 3, 1) := dd_all DX5_move_0_ok 25 rfl
theorem dX5_move_85 : decode cX5_move 85 = .ok (.invokevirtual 62, 3) := dd_all DX5_move_0_ok 26 rfl
theorem dX5_move_88 : decode cX5_move 88 = .ok (.goto 3, 3) := dd_all DX5_move_0_ok 27 rfl
theorem dX5_move_91 : decode cX5_move 91 = .ok (.return_, 1) := dd_all DX5_move_0_ok 28 rfl
def DX5_rise_0 : List (Nat × Instr × Nat) := [(0, .aload_n 0, 1), (1, .iload_n 1, 1), (2, .invokevirtual 48, 3), (5, .istore_n 2, 1), (6, .iload_n 2, 1), (7, .aload_n 0, 1), (8, .getfield 24, 3), (11, .iload_n 1, 1), (12, .invokestatic 41, 3), (15, .iload_n 2, 1), (16, .getstatic 66, 3), (19, .aload_n 0, 1), (20, .getfield 9, 3), (23, .iload_n 1, 1), (24, .invokestatic 41, 3), (27, .invokestatic 41, 3), (30, .invokestatic 69, 3), (33, .iadd, 1), (34, .invokestatic 73, 3), (37, .istore_n 3, 1), (38, .aload_n 0, 1), (39, .getfield 24, 3), (42, .iload_n 1, 1), (43, .iload_n 3, 1), (44, .invokestatic 37, 3), (47, .iload_n 3, 1), (48, .iload_n 2, 1), (49, .if_icmp .ne 12, 3), (52, .aload_n 0, 1), (53, .getfield 21, 3), (56, .iload_n 1, 1), (57, .iconst 2, 1), (58, .invokestatic 37, 3), (61, .return_, 1)]
theorem DX5_rise_0_ok : ∀ q ∈ DX5_rise_0, decode cX5_rise q.1 = .ok (q.2.1, q.2.2) := by decide +kernel
theorem dX5_rise_0 : decode cX5_rise 0 = .ok (.aload_n 0, 1) := dd_all DX5_rise_0_ok 0 rfl
theorem dX5_rise_1 : decode cX5_rise 1 = .ok (.iload_n 1, 1) := dd_all DX5_rise_0_ok 1 rfl
theorem dX5_rise_2 : decode cX5_rise 2 = .ok (.invokevirtual 48, 3) := dd_all DX5_rise_0_ok 2 rfl
theorem dX5_rise_5 : decode cX5_rise 5 = .ok (.istore_n 2, 1) := dd_all DX5_rise_0_ok 3 rfl
theorem dX5_rise_6 : decode cX5_rise 6 = .ok (.iload_n 2, 1) := dd_all DX5_rise_0_ok 4 rfl
theorem dX5_rise_7 : decode cX5_rise 7 = .ok (.aload_n 0, 1) := dd_all DX5_rise_0_ok 5 rfl
theorem dX5_rise_8 : decode cX5_rise 8 = .ok (.getfield 24, 3) := dd_all DX5_rise_0_ok 6 rfl
theorem dX5_rise_11 : decode cX5_rise 11 = .ok (.iload_n 1, 1) := dd_all DX5_rise_0_ok 7 rfl
theorem dX5_rise_12 : decode cX5_rise 12 = .ok (.invokestatic 41, 3) := dd_all DX5_rise_0_ok 8 rfl
theorem dX5_rise_15 : decode cX5_rise 15 = .ok (.iload_n 2, 1) := dd_all DX5_rise_0_ok 9 rfl
theorem dX5_rise_16 : decode cX5_rise 16 = .ok (.getstatic 66, 3) := dd_all DX5_rise_0_ok 10 rfl
theorem dX5_rise_19 : decode cX5_rise 19 = .ok (.aload_n 0, 1) := dd_all DX5_rise_0_ok 11 rfl
theorem dX5_rise_20 : decode cX5_rise 20 = .ok (.getfield 9, 3) := dd_all DX5_rise_0_ok 12 rfl
theorem dX5_rise_23 : decode cX5_rise 23 = .ok (.iload_n 1, 1) := dd_all DX5_rise_0_ok 13 rfl
theorem dX5_rise_24 : decode cX5_rise 24 = .ok (.invokestatic 41, 3) := dd_all DX5_rise_0_ok 14 rfl
theorem dX5_rise_27 : decode cX5_rise 27 = .ok (.invokestatic 41, 3) := dd_all DX5_rise_0_ok 15 rfl
theorem dX5_rise_30 : decode cX5_rise 30 = .ok (.invokestatic 69, 3) := dd_all DX5_rise_0_ok 16 rfl
theorem dX5_rise_33 : decode cX5_rise 33 = .ok (.iadd, 1) := dd_all DX5_rise_0_ok 17 rfl
theorem dX5_rise_34 : decode cX5_rise 34 = .ok (.invokestatic 73, 3) := dd_all DX5_rise_0_ok 18 rfl
theorem dX5_rise_37 : decode cX5_rise 37 = .ok (.istore_n 3, 1) := dd_all DX5_rise_0_ok 19 rfl
theorem dX5_rise_38 : decode cX5_rise 38 = .ok (.aload_n 0, 1) := dd_all DX5_rise_0_ok 20 rfl
theorem dX5_rise_39 : decode cX5_rise 39 = .ok (.getfield 24, 3) := dd_all DX5_rise_0_ok 21 rfl
theorem dX5_rise_42 : decode cX5_rise 42 = .ok (.iload_n 1, 1) := dd_all DX5_rise_0_ok 22 rfl
theorem dX5_rise_43 : decode cX5_rise 43 = .ok (.iload_n 3, 1) := dd_all DX5_rise_0_ok 23 rfl
theorem dX5_rise_44 : decode cX5_rise 44 = .ok (.invokestatic 37, 3) := dd_all DX5_rise_0_ok 24 rfl
theorem dX5_rise_47 : decode cX5_rise 47 = .ok (.iload_n 3, 1) := dd_all DX5_rise_0_ok 25 rfl
theorem dX5_rise_48 : decode cX5_rise 48 = .ok (.iload_n 2, 1) := dd_all DX5_rise_0_ok 26 rfl
theorem dX5_rise_49 : decode cX5_rise 49 = .ok (.if_icmp .ne 12, 3) := dd_all DX5_rise_0_ok 27 rfl
theorem dX5_rise_52 : decode cX5_rise 52 = .ok (.aload_n 0, 1) := dd_all DX5_rise_0_ok 28 rfl
theorem dX5_rise_53 : decode cX5_rise 53 = .ok (.getfield 21, 3) := dd_all DX5_rise_0_ok 29 rfl
theorem dX5_rise_56 : decode cX5_rise 56 = .ok (.iload_n 1, 1) := dd_all DX5_rise_0_ok 30 rfl
theorem dX5_rise_57 : decode cX5_rise 57 = .ok (.iconst 2, 1) := dd_all DX5_rise_0_ok 31 rfl
theorem dX5_rise_58 : decode cX5_rise 58 = .ok (.invokestatic 37, 3) := dd_all DX5_rise_0_ok 32 rfl
theorem dX5_rise_61 : decode cX5_rise 61 = .ok (.return_, 1) := dd_all DX5_rise_0_ok 33 rfl
def DX5_sink_0 : List (Nat × Instr × Nat) := [(0, .aload_n 0, 1), (1, .iload_n 1, 1), (2, .invokevirtual 48, 3), (5, .istore_n 2, 1), (6, .aload_n 0, 1), (7, .iload_n 1, 1), (8, .iload_n 2, 1), (9, .invokevirtual 78, 3), (12, .istore_n 3, 1), (13, .iload_n 3, 1), (14, .aload_n 0, 1), (15, .getfield 24, 3), (18, .iload_n 1, 1), (19, .invokestatic 41, 3), (22, .iload_n 2, 1), (23, .iload_n 3, 1), (24, .isub, 1), (25, .getstatic 81, 3), (28, .aload_n 0, 1), (29, .getfield 9, 3), (32, .iload_n 1, 1), (33, .invokestatic 41, 3), (36, .invokestatic 41, 3), (39, .invokestatic 69, 3), (42, .isub, 1), (43, .invokestatic 84, 3), (46, .istore 4, 2), (48, .aload_n 0, 1), (49, .getfield 24, 3), (52, .iload_n 1, 1), (53, .iload 4, 2), (55, .invokestatic 37, 3), (58, .iload 4, 2), (60, .iload_n 3, 1), (61, .if_icmp .ne 12, 3), (64, .aload_n 0, 1), (65, .getfield 21, 3), (68, .iload_n 1, 1), (69, .iconst 3, 1), (70, .invokestatic 37, 3)]
theorem DX5_sink_0_ok : ∀ q ∈ DX5_sink_0, decode cX5_sink q.1 = .ok (q.2.1, q.2.2) := by decide +kernel
theorem dX5_sink_0 : decode cX5_sink 0 = .ok (.aload_n 0, 1) := dd_all DX5_sink_0_ok 0 rfl
theorem dX5_sink_1 : decode cX5_sink 1 = .ok (.iload_n 1, 1) := dd_all DX5_sink_0_ok 1 rfl
theorem dX5_sink_2 : decode cX5_sink 2 = .ok (.invokevirtual 48, 3) := dd_all DX5_sink_0_ok 2 rfl
theorem dX5_sink_5 : decode cX5_sink 5 = .ok (.istore_n 2, 1) := dd_all DX5_sink_0_ok 3 rfl
theorem dX5_sink_6 : decode cX5_sink 6 = .ok (.aload_n 0, 1) := dd_all DX5_sink_0_ok 4 rfl
theorem dX5_sink_7 : decode cX5_sink 7 = .ok (.iload_n 1, 1) := dd_all DX5_sink_0_ok 5 rfl
theorem dX5_sink_8 : decode cX5_sink 8 = .ok (.iload_n 2, 1) := dd_all DX5_sink_0_ok 6 rfl
theorem dX5_sink_9 : decode cX5_sink 9 = .ok (.invokevirtual 78, 3) := dd_all DX5_sink_0_ok 7 rfl
theorem dX5_sink_12 : decode cX5_sink 12 = .ok (.istore_n 3, 1) := dd_all DX5_sink_0_ok 8 rfl
theorem dX5_sink_13 : decode cX5_sink 13 = .ok (.iload_n 3, 1) := dd_all DX5_sink_0_ok 9 rfl
theorem dX5_sink_14 : decode cX5_sink 14 = .ok (.aload_n 0, 1) := dd_all DX5_sink_0_ok 10 rfl
theorem dX5_sink_15 : decode cX5_sink 15 = .ok (.getfield 24, 3) := dd_all DX5_sink_0_ok 11 rfl
theorem dX5_sink_18 : decode cX5_sink 18 = .ok (.iload_n 1, 1) := dd_all DX5_sink_0_ok 12 rfl
theorem dX5_sink_19 : decode cX5_sink 19 = .ok (.invokestatic 41, 3) := dd_all DX5_sink_0_ok 13 rfl
theorem dX5_sink_22 : decode cX5_sink 22 = .ok (.iload_n 2, 1) := dd_all DX5_sink_0_ok 14 rfl
theorem dX5_sink_23 : decode cX5_sink 23 = .ok (.iload_n 3, 1) := dd_all DX5_sink_0_ok 15 rfl
theorem dX5_sink_24 : decode cX5_sink 24 = .ok (.isub, 1) := dd_all DX5_sink_0_ok 16 rfl
theorem dX5_sink_25 : decode cX5_sink 25 = .ok (.getstatic 81, 3) := dd_all DX5_sink_0_ok 17 rfl
theorem dX5_sink_28 : decode cX5_sink 28 = .ok (.aload_n 0, 1) := dd_all DX5_sink_0_ok 18 rfl
theorem dX5_sink_29 : decode cX5_sink 29 = .ok (.getfield 9, 3) := dd_all DX5_sink_0_ok 19 rfl
theorem dX5_sink_32 : decode cX5_sink 32 = .ok (.iload_n 1, 1) := dd_all DX5_sink_0_ok 20 rfl
theorem dX5_sink_33 : decode cX5_sink 33 = .ok (.invokestatic 41, 3) := dd_all DX5_sink_0_ok 21 rfl
theorem dX5_sink_36 : decode cX5_sink 36 = .ok (.invokestatic 41, 3) := dd_all DX5_sink_0_ok 22 rfl
theorem dX5_sink_39 : decode cX5_sink 39 = .ok (.invokestatic 69, 3) := dd_all DX5_sink_0_ok 23 rfl
theorem dX5_sink_42 : decode cX5_sink 42 = .ok (.isub, 1) := dd_all DX5_sink_0_ok 24 rfl
theorem dX5_sink_43 : decode cX5_sink 43 = .ok (.invokestatic 84, 3) := dd_all DX5_sink_0_ok 25 rfl
theorem dX5_sink_46 : decode cX5_sink 46 = .ok (.istore 4, 2) := dd_all DX5_sink_0_ok 26 rfl
theorem dX5_sink_48 : decode cX5_sink 48 = .ok (.aload_n 0, 1) := dd_all DX5_sink_0_ok 27 rfl
theorem dX5_sink_49 : decode cX5_sink 49 = .ok (.getfield 24, 3) := dd_all DX5_sink_0_ok 28 rfl
theorem dX5_sink_52 : decode cX5_sink 52 = .ok (.iload_n 1, 1) := dd_all DX5_sink_0_ok 29 rfl
theorem dX5_sink_53 : decode cX5_sink 53 = .ok (.iload 4, 2) := dd_all DX5_sink_0_ok 30 rfl
theorem dX5_sink_55 : decode cX5_sink 55 = .ok (.invokestatic 37, 3) := dd_all DX5_sink_0_ok 31 rfl
theorem dX5_sink_58 : decode cX5_sink 58 = .ok (.iload 4, 2) := dd_all DX5_sink_0_ok 32 rfl
theorem dX5_sink_60 : decode cX5_sink 60 = .ok (.iload_n 3, 1) := dd_all DX5_sink_0_ok 33 rfl
theorem dX5_sink_61 : decode cX5_sink 61 = .ok (.if_icmp .ne 12, 3) := dd_all DX5_sink_0_ok 34 rfl
theorem dX5_sink_64 : decode cX5_sink 64 = .ok (.aload_n 0, 1) := dd_all DX5_sink_0_ok 35 rfl
theorem dX5_sink_65 : decode cX5_sink 65 = .ok (.getfield 21, 3) := dd_all DX5_sink_0_ok 36 rfl
theorem dX5_sink_68 : decode cX5_sink 68 = .ok (.iload_n 1, 1) := dd_all DX5_sink_0_ok 37 rfl
theorem dX5_sink_69 : decode cX5_sink 69 = .ok (.iconst 3, 1) := dd_all DX5_sink_0_ok 38 rfl
theorem dX5_sink_70 : decode cX5_sink 70 = .ok (.invokestatic 37, 3) := dd_all DX5_sink_0_ok 39 rfl
def DX5_sink_40 : List (Nat × Instr × Nat) := [(73, .return_, 1)]
theorem DX5_sink_40_ok : ∀ q ∈ DX5_sink_40, decode cX5_sink q.1 = .ok (q.2.1, q.2.2) := by decide +kernel
theorem dX5_sink_73 : decode cX5_sink 73 = .ok (.return_, 1) := dd_all DX5_sink_40_ok 0 rfl
def DX5_goDown_0 : List (Nat × Instr × Nat) := [(0, .iconst 0, 1), (1, .aload_n 0, 1), (2, .getfield 24, 3), (5, .iload_n 1, 1), (6, .invokestatic 41, 3), (9, .aload_n 0, 1), (10, .getfield 27, 3), (13, .iload_n 1, 1), (14, .invokestatic 41, 3), (17, .iload_n 2, 1), (18, .invokestatic 69, 3), (21, .isub, 1), (22, .invokestatic 84, 3), (25, .istore_n 3, 1), (26, .aload_n 0, 1), (27, .getfield 24, 3), (30, .iload_n 1, 1), (31, .iload_n 3, 1), (32, .invokestatic 37, 3), (35, .iload_n 3, 1), (36, .ifCond .ne 8, 3), (39, .aload_n 0, 1), (40, .iload_n 1, 1), (41, .invokevirtual 87, 3), (44, .return_, 1)]
theorem DX5_goDown_0_ok : ∀ q ∈ DX5_goDown_0, decode cX5_goDown q.1 = .ok (q.2.1, q.2.2) := by decide +kernel
theorem dX5_goDown_0 : decode cX5_goDown 0 = .ok (.iconst 0, 1) := dd_all DX5_goDown_0_ok 0 rfl
theorem dX5_goDown_1 : decode cX5_goDown 1 = .ok (.aload_n 0, 1) := dd_all DX5_goDown_0_ok 1 rfl
theorem dX5_goDown_2 : decode cX5_goDown 2 = .ok (.getfield 24, 3) := dd_all DX5_goDown_0_ok 2 rfl
theorem dX5_goDown_5 : decode cX5_goDown 5 = .ok (.iload_n 1, 1) := dd_all DX5_goDown_0_ok 3 rfl
theorem dX5_goDown_6 : decode cX5_goDown 6 = .ok (.invokestatic 41, 3) := dd_all DX5_goDown_0_ok 4 rfl
theorem dX5_goDown_9 : decode cX5_goDown 9 = .ok (.aload_n 0, 1) := dd_all DX5_goDown_0_ok 5 rfl
theorem dX5_goDown_10 : decode cX5_goDown 10 = .ok (.getfield 27, 3) := dd_all DX5_goDown_0_ok 6 rfl
theorem dX5_goDown_13 : decode cX5_goDown 13 = .ok (.iload_n 1, 1) := dd_all DX5_goDown_0_ok 7 rfl
theorem dX5_goDown_14 : decode cX5_goDown 14 = .ok (.invokestatic 41, 3) := dd_all DX5_goDown_0_ok 8 rfl
theorem dX5_goDown_17 : decode cX5_goDown 17 = .ok (.iload_n 2, 1) := dd_all DX5_goDown_0_ok 9 rfl
theorem dX5_goDown_18 : decode cX5_goDown 18 = .ok (.invokestatic 69, 3) := dd_all DX5_goDown_0_ok 10 rfl
theorem dX5_goDown_21 : decode cX5_goDown 21 = .ok (.isub, 1) := dd_all DX5_goDown_0_ok 11 rfl
theorem dX5_goDown_22 : decode cX5_goDown 22 = .ok (.invokestatic 84, 3) := dd_all DX5_goDown_0_ok 12 rfl
theorem dX5_goDown_25 : decode cX5_goDown 25 = .ok (.istore_n 3, 1) := dd_all DX5_goDown_0_ok 13 rfl
theorem dX5_goDown_26 : decode cX5_goDown 26 = .ok (.aload_n 0, 1) := dd_all DX5_goDown_0_ok 14 rfl
theorem dX5_goDown_27 : decode cX5_goDown 27 = .ok (.getfield 24, 3) := dd_all DX5_goDown_0_ok 15 rfl
theorem dX5_goDown_30 : decode cX5_goDown 30 = .ok (.iload_n 1, 1) := dd_all DX5_goDown_0_ok 16 rfl
theorem dX5_goDown_31 : decode cX5_goDown 31 = .ok (.iload_n 3, 1) := dd_all DX5_goDown_0_ok 17 rfl
theorem dX5_goDown_32 : decode cX5_goDown 32 = .ok (.invokestatic 37, 3) := dd_all DX5_goDown_0_ok 18 rfl
theorem dX5_goDown_35 : decode cX5_goDown 35 = .ok (.iload_n 3, 1) := dd_all DX5_goDown_0_ok 19 rfl
theorem dX5_goDown_36 : decode cX5_goDown 36 = .ok (.ifCond .ne 8, 3) := dd_all DX5_goDown_0_ok 20 rfl
theorem dX5_goDown_39 : decode cX5_goDown 39 = .ok (.aload_n 0, 1) := dd_all DX5_goDown_0_ok 21 rfl
theorem dX5_goDown_40 : decode cX5_goDown 40 = .ok (.iload_n 1, 1) := dd_all DX5_goDown_0_ok 22 rfl
theorem dX5_goDown_41 : decode cX5_goDown 41 = .ok (.invokevirtual 87, 3) := dd_all DX5_goDown_0_ok 23 rfl
theorem dX5_goDown_44 : decode cX5_goDown 44 = .ok (.return_, 1) := dd_all DX5_goDown_0_ok 24 rfl
def DX5_copyFrom_0 : List (Nat × Instr × Nat) := [(0, .aload_n 0, 1), (1, .aload_n 1, 1), (2, .getfield 33, 3), (5, .putfield 33, 3), (8, .aload_n 1, 1), (9, .getfield 9, 3), (12, .aload_n 0, 1), (13, .getfield 9, 3), (16, .aload_n 0, 1), (17, .getfield 33, 3), (20, .invokestatic 90, 3), (23, .aload_n 1, 1), (24, .getfield 15, 3), (27, .aload_n 0, 1), (28, .getfield 15, 3), (31, .aload_n 0, 1), (32, .getfield 33, 3), (35, .invokestatic 90, 3), (38, .aload_n 1, 1), (39, .getfield 18, 3), (42, .aload_n 0, 1), (43, .getfield 18, 3), (46, .aload_n 0, 1), (47, .getfield 33, 3), (50, .invokestatic 90, 3), (53, .aload_n 1, 1), (54, .getfield 21, 3), (57, .aload_n 0, 1), (58, .getfield 21, 3), (61, .aload_n 0, 1), (62, .getfield 33, 3), (65, .invokestatic 90, 3), (68, .aload_n 1, 1), (69, .getfield 24, 3), (72, .aload_n 0, 1), (73, .getfield 24, 3), (76, .aload_n 0, 1), (77, .getfield 33, 3), (80, .invokestatic 90, 3), (83, .aload_n 1, 1)]
theorem DX5_copyFrom_0_ok : ∀ q ∈ DX5_copyFrom_0, decode cX5_copyFrom q.1 = .ok (q.2.1, q.2.2) := by decide +kernel
theorem dX5_copyFrom_0 : decode cX5_copyFrom 0 = .ok (.aload_n 0, 1) := dd_all DX5_copyFrom_0_ok 0 rfl
theorem dX5_copyFrom_1 : decode cX5_copyFrom 1 = .ok (.aload_n 1, 1) := dd_all DX5_copyFrom_0_ok 1 rfl
theorem dX5_copyFrom_2 : decode cX5_copyFrom 2 = .ok (.getfield 33, 3) := dd_all DX5_copyFrom_0_ok 2 rfl
theorem dX5_copyFrom_5 : decode cX5_copyFrom 5 = .ok (.putfield 33, 3) := dd_all DX5_copyFrom_0_ok 3 rfl
theorem dX5_copyFrom_8 : decode cX5_copyFrom 8 = .ok (.aload_n 1, 1) := dd_all DX5_copyFrom_0_ok 4 rfl
theorem dX5_copyFrom_9 : decode cX5_copyFrom 9 = .ok (.getfield 9, 3) := dd_all DX5_copyFrom_0_ok 5 rfl
theorem dX5_copyFrom_12 : decode cX5_copyFrom 12 = .ok (.aload_n 0, 1) := dd_all DX5_copyFrom_0_ok 6 rfl
theorem dX5_copyFrom_13 : decode cX5_copyFrom 13 = .ok (.getfield 9, 3) := dd_all DX5_copyFrom_0_ok 7 rfl
theorem dX5_copyFrom_16 : decode cX5_copyFrom 16 = .ok (.aload_n 0, 1) := dd_all DX5_copyFrom_0_ok 8 rfl
theorem dX5_copyFrom_17 : decode cX5_copyFrom 17 = .ok (.getfield 33, 3) := dd_all DX5_copyFrom_0_ok 9 rfl
theorem dX5_copyFrom_20 : decode cX5_copyFrom 20 = .ok (.invokestatic 90, 3) := dd_all DX5_copyFrom_0_ok 10 rfl
theorem dX5_copyFrom_23 : decode cX5_copyFrom 23 = .ok (.aload_n 1, 1) := dd_all DX5_copyFrom_0_ok 11 rfl
theorem dX5_copyFrom_24 : decode cX5_copyFrom 24 = .ok (.getfield 15, 3) := dd_all DX5_copyFrom_0_ok 12 rfl
theorem dX5_copyFrom_27 : decode cX5_copyFrom 27 = .ok (.aload_n 0, 1) := dd_all DX5_copyFrom_0_ok 13 rfl
theorem dX5_copyFrom_28 : decode cX5_copyFrom 28 = .ok (.getfield 15, 3) := dd_all DX5_copyFrom_0_ok 14 rfl
theorem dX5_copyFrom_31 : decode cX5_copyFrom 31 = .ok (.aload_n 0, 1) := dd_all DX5_copyFrom_0_ok 15 rfl
theorem dX5_copyFrom_32 : decode cX5_copyFrom 32 = .ok (.getfield 33, 3) := dd_all DX5_copyFrom_0_ok 16 rfl
theorem dX5_copyFrom_35 : decode cX5_copyFrom 35 = .ok (.invokestatic 90, 3) := dd_all DX5_copyFrom_0_ok 17 rfl
theorem dX5_copyFrom_38 : decode cX5_copyFrom 38 = .ok (.aload_n 1, 1) := dd_all DX5_copyFrom_0_ok 18 rfl
theorem dX5_copyFrom_39 : decode cX5_copyFrom 39 = .ok (.getfield 18, 3) := dd_all DX5_copyFrom_0_ok 19 rfl
theorem dX5_copyFrom_42 : decode cX5_copyFrom 42 = .ok (.aload_n 0, 1) := dd_all DX5_copyFrom_0_ok 20 rfl
theorem dX5_copyFrom_43 : decode cX5_copyFrom 43 = .ok (.getfield 18, 3) := dd_all DX5_copyFrom_0_ok 21 rfl
theorem dX5_copyFrom_46 : decode cX5_copyFrom 46 = .ok (.aload_n 0, 1) := dd_all DX5_copyFrom_0_ok 22 rfl
theorem dX5_copyFrom_47 : decode cX5_copyFrom 47 = .ok (.getfield 33, 3) := dd_all DX5_copyFrom_0_ok 23 rfl
theorem dX5_copyFrom_50 : decode cX5_copyFrom 50 = .ok (.invokestatic 90, 3) := dd_all DX5_copyFrom_0_ok 24 rfl
theorem dX5_copyFrom_53 : decode cX5_copyFrom 53 = .ok (.aload_n 1, 1) := dd_all DX5_copyFrom_0_ok 25 rfl
theorem dX5_copyFrom_54 : decode cX5_copyFrom 54 = .ok (.getfield 21, 3) := dd_all DX5_copyFrom_0_ok 26 rfl
theorem dX5_copyFrom_57 : decode cX5_copyFrom 57 = .ok (.aload_n 0, 1) := dd_all DX5_copyFrom_0_ok 27 rfl
theorem dX5_copyFrom_58 : decode cX5_copyFrom 58 = .ok (.getfield 21, 3) := dd_all DX5_copyFrom_0_ok 28 rfl
theorem dX5_copyFrom_61 : decode cX5_copyFrom 61 = .ok (.aload_n 0, 1) := dd_all DX5_copyFrom_0_ok 29 rfl
theorem dX5_copyFrom_62 : decode cX5_copyFrom 62 = .ok (.getfield 33, 3) := dd_all DX5_copyFrom_0_ok 30 rfl
theorem dX5_copyFrom_65 : decode cX5_copyFrom 65 = .ok (.invokestatic 90, 3) := dd_all DX5_copyFrom_0_ok 31 rfl
theorem dX5_copyFrom_68 : decode cX5_copyFrom 68 = .ok (.aload_n 1, 1) := dd_all DX5_copyFrom_0_ok 32 rfl
theorem dX5_copyFrom_69 : decode cX5_copyFrom 69 = .ok (.getfield 24, 3) := dd_all DX5_copyFrom_0_ok 33 rfl
theorem dX5_copyFrom_72 : decode cX5_copyFrom 72 = .ok (.aload_n 0, 1) := dd_all DX5_copyFrom_0_ok 34 rfl
theorem dX5_copyFrom_73 : decode cX5_copyFrom 73 = .ok (.getfield 24, 3) := dd_all DX5_copyFrom_0_ok 35 rfl
theorem dX5_copyFrom_76 : decode cX5_copyFrom 76 = .ok (.aload_n 0, 1) := dd_all DX5_copyFrom_0_ok 36 rfl
theorem dX5_copyFrom_77 : decode cX5_copyFrom 77 = .ok (.getfield 33, 3) := dd_all DX5_copyFrom_0_ok 37 rfl
theorem dX5_copyFrom_80 : decode cX5_copyFrom 80 = .ok (.invokestatic 90, 3) := dd_all DX5_copyFrom_0_ok 38 rfl
theorem dX5_copyFrom_83 : decode cX5_copyFrom 83 = .ok (.aload_n 1, 1) := dd_all DX5_copyFrom_0_ok 39 rfl
def DX5_copyFrom_40 : List (Nat × Instr × Nat) := [(84, .getfield 27, 3), (87, .aload_n 0, 1), (88, .getfield 27, 3), (91, .aload_n 0, 1), (92, .getfield 33, 3), (95, .invokestatic 90, 3), (98, .aload_n 1, 1), (99, .getfield 30, 3), (102, .aload_n 0, 1), (103, .getfield 30, 3), (106, .aload_n 0, 1), (107, .getfield 33, 3), (110, .invokestatic 90, 3), (113, .return_, 1)]
theorem DX5_copyFrom_40_ok : ∀ q ∈ DX5_copyFrom_40, decode cX5_copyFrom q.1 = .ok (q.2.1, q.2.2) := by decide +kernel
theorem dX5_copyFrom_84 : decode cX5_copyFrom 84 = .ok (.getfield 27, 3) := dd_all DX5_copyFrom_40_ok 0 rfl
theorem dX5_copyFrom_87 : decode cX5_copyFrom 87 = .ok (.aload_n 0, 1) := dd_all DX5_copyFrom_40_ok 1 rfl
theorem dX5_copyFrom_88 : decode cX5_copyFrom 88 = .ok (.getfield 27, 3) := dd_all DX5_copyFrom_40_ok 2 rfl
theorem dX5_copyFrom_91 : decode cX5_copyFrom 91 = .ok (.aload_n 0, 1) := dd_all DX5_copyFrom_40_ok 3 rfl
theorem dX5_copyFrom_92 : decode cX5_copyFrom 92 = .ok (.getfield 33, 3) := dd_all DX5_copyFrom_40_ok 4 rfl
theorem dX5_copyFrom_95 : decode cX5_copyFrom 95 = .ok (.invokestatic 90, 3) := dd_all DX5_copyFrom_40_ok 5 rfl
theorem dX5_copyFrom_98 : decode cX5_copyFrom 98 = .ok (.aload_n 1, 1) := dd_all DX5_copyFrom_40_ok 6 rfl
theorem dX5_copyFrom_99 : decode cX5_copyFrom 99 = .ok (.getfield 30, 3) := dd_all DX5_copyFrom_40_ok 7 rfl
theorem dX5_copyFrom_102 : decode cX5_copyFrom 102 = .ok (.aload_n 0, 1) := dd_all DX5_copyFrom_40_ok 8 rfl
theorem dX5_copyFrom_103 : decode cX5_copyFrom 103 = .ok (.getfield 30, 3) := dd_all DX5_copyFrom_40_ok 9 rfl
theorem dX5_copyFrom_106 : decode cX5_copyFrom 106 = .ok (.aload_n 0, 1) := dd_all DX5_copyFrom_40_ok 10 rfl
theorem dX5_copyFrom_107 : decode cX5_copyFrom 107 = .ok (.getfield 33, 3) := dd_all DX5_copyFrom_40_ok 11 rfl
theorem dX5_copyFrom_110 : decode cX5_copyFrom 110 = .ok (.invokestatic 90, 3) := dd_all DX5_copyFrom_40_ok 12 rfl
theorem dX5_copyFrom_113 : decode cX5_copyFrom 113 = .ok (.return_, 1) := dd_all DX5_copyFrom_40_ok 13 rfl
def DX6_init_0 : List (Nat × Instr × Nat) := [(0, .aload_n 0, 1), (1, .invokespecial 3, 3), (4, .return_, 1)]
theorem DX6_init_0_ok : ∀ q ∈ DX6_init_0, decode cX6_init q.1 = .ok (q.2.1, q.2.2) := by decide +kernel
theorem dX6_init_0 : decode cX6_init 0 = .ok (.aload_n 0, 1) := dd_all DX6_init_0_ok 0 rfl
theorem dX6_init_1 : decode cX6_init 1 = .ok (.invokespecial 3, 3) := dd_all DX6_init_0_ok 1 rfl
theorem dX6_init_4 : decode cX6_init 4 = .ok (.return_, 1) := dd_all DX6_init_0_ok 2 rfl
def DX7_init_0 : List (Nat × Instr × Nat) := [(0, .aload_n 0, 1), (1, .invokespecial 1, 3), (4, .aload_n 0, 1), (5, .new 7, 3), (8, .dup, 1), (9, .invokespecial 9, 3), (12, .putfield 10, 3), (15, .aload_n 0, 1), (16, .new 7, 3), (19, .dup, 1), (20, .invokespecial 9, 3), (23, .putfield 16, 3), (26, .aload_n 0, 1), (27, .new 19, 3), (30, .dup, 1), (31, .invokespecial 21, 3), (34, .putfield 22, 3), (37, .aload_n 0, 1), (38, .new 26, 3), (41, .dup, 1), (42, .ldc 28, 2), (44, .invokespecial 30, 3), (47, .putfield 33, 3), (50, .aload_n 0, 1), (51, .new 37, 3), (54, .dup, 1), (55, .invokespecial 39, 3), (58, .putfield 40, 3), (61, .aload_n 0, 1), (62, .new 44, 3), (65, .dup, 1), (66, .invokespecial 46, 3), (69, .putfield 47, 3), (72, .aload_n 0, 1), (73, .iconst 4, 1), (74, .newarray .int, 2), (76, .putfield 51, 3), (79, .return_, 1)]
theorem DX7_init_0_ok : ∀ q ∈ DX7_init_0, decode cX7_init q.1 = .ok (q.2.1, q.2.2) := by decide +kernel
theorem dX7_init_0 : decode cX7_init 0 = .ok (.aload_n 0, 1) := dd_all DX7_init_0_ok 0 rfl
theorem dX7_init_1 : decode cX7_init 1 = .ok (.invokespecial 1, 3) := dd_all DX7_init_0_ok 1 rfl
theorem dX7_init_4 : decode cX7_init 4 = .ok (.aload_n 0, 1) := dd_all DX7_init_0_ok 2 rfl
theorem dX7_init_5 : decode cX7_init 5 = .ok (.new 7, 3) := dd_all DX7_init_0_ok 3 rfl
theorem dX7_init_8 : decode cX7_init 8 = .ok (.dup, 1) := dd_all DX7_init_0_ok 4 rfl
theorem dX7_init_9 : decode cX7_init 9 = .ok (.invokespecial 9, 3) := dd_all DX7_init_0_ok 5 rfl
theorem dX7_init_12 : decode cX7_init 12 = .ok (.putfield 10, 3) := dd_all DX7_init_0_ok 6 rfl
theorem dX7_init_15 : decode cX7_init 15 = .ok (.aload_n 0, 1) := dd_all DX7_init_0_ok 7 rfl
theorem dX7_init_16 : decode cX7_init 16 = .ok (.new 7, 3) := dd_all DX7_init_0_ok 8 rfl
theorem dX7_init_19 : decode cX7_init 19 = .ok (.dup, 1) := dd_all DX7_init_0_ok 9 rfl
theorem dX7_init_20 : decode cX7_init 20 = .ok (.invokespecial 9, 3) := dd_all DX7_init_0_ok 10 rfl
theorem dX7_init_23 : decode cX7_init 23 = .ok (.putfield 16, 3) := dd_all DX7_init_0_ok 11 rfl
theorem dX7_init_26 : decode cX7_init 26 = .ok (.aload_n 0, 1) := dd_all DX7_init_0_ok 12 rfl
theorem dX7_init_27 : decode cX7_init 27 = .ok (.new 19, 3) := dd_all DX7_init_0_ok 13 rfl
theorem dX7_init_30 : decode cX7_init 30 = .ok (.dup, 1) := dd_all DX7_init_0_ok 14 rfl
theorem dX7_init_31 : decode cX7_init 31 = .ok (.invokespecial 21, 3) := dd_all DX7_init_0_ok 15 rfl
theorem dX7_init_34 : decode cX7_init 34 = .ok (.putfield 22, 3) := dd_all DX7_init_0_ok 16 rfl
theorem dX7_init_37 : decode cX7_init 37 = .ok (.aload_n 0, 1) := dd_all DX7_init_0_ok 17 rfl
theorem dX7_init_38 : decode cX7_init 38 = .ok (.new 26, 3) := dd_all DX7_init_0_ok 18 rfl
theorem dX7_init_41 : decode cX7_init 41 = .ok (.dup, 1) := dd_all DX7_init_0_ok 19 rfl
theorem dX7_init_42 : decode cX7_init 42 = .ok (.ldc 28, 2) := dd_all DX7_init_0_ok 20 rfl
theorem dX7_init_44 : decode cX7_init 44 = .ok (.invokespecial 30, 3) := dd_all DX7_init_0_ok 21 rfl
theorem dX7_init_47 : decode cX7_init 47 = .ok (.putfield 33, 3) := dd_all DX7_init_0_ok 22 rfl
theorem dX7_init_50 : decode cX7_init 50 = .ok (.aload_n 0, 1) := dd_all DX7_init_0_ok 23 rfl
theorem dX7_init_51 : decode cX7_init 51 = .ok (.new 37, 3) := dd_all DX7_init_0_ok 24 rfl
theorem dX7_init_54 : decode cX7_init 54 = .ok (.dup, 1) := dd_all DX7_init_0_ok 25 rfl
theorem dX7_init_55 : decode cX7_init 55 = .ok (.invokespecial 39, 3) := dd_all DX7_init_0_ok 26 rfl
theorem dX7_init_58 : decode cX7_init 58 = .ok (.putfield 40, 3) := dd_all DX7_init_0_ok 27 rfl
theorem dX7_init_61 : decode cX7_init 61 = .ok (.aload_n 0, 1) := dd_all DX7_init_0_ok 28 rfl
theorem dX7_init_62 : decode cX7_init 62 = .ok (.new 44, 3) := dd_all DX7_init_0_ok 29 rfl
theorem dX7_init_65 : decode cX7_init 65 = .ok (.dup, 1) := dd_all DX7_init_0_ok 30 rfl
theorem dX7_init_66 : decode cX7_init 66 = .ok (.invokespecial 46, 3) := dd_all DX7_init_0_ok 31 rfl
theorem dX7_init_69 : decode cX7_init 69 = .ok (.putfield 47, 3) := dd_all DX7_init_0_ok 32 rfl
theorem dX7_init_72 : decode cX7_init 72 = .ok (.aload_n 0, 1) := dd_all DX7_init_0_ok 33 rfl
theorem dX7_init_73 : decode cX7_init 73 = .ok (.iconst 4, 1) := dd_all DX7_init_0_ok 34 rfl
theorem dX7_init_74 : decode cX7_init 74 = .ok (.newarray .int, 2) := dd_all DX7_init_0_ok 35 rfl
theorem dX7_init_76 : decode cX7_init 76 = .ok (.putfield 51, 3) := dd_all DX7_init_0_ok 36 rfl
theorem dX7_init_79 : decode cX7_init 79 = .ok (.return_, 1) := dd_all DX7_init_0_ok 37 rfl
def DX7_knock_0 : List (Nat × Instr × Nat) := [(0, .iload_n 1, 1), (1, .invokestatic 55, 3), (4, .ifCond .eq 21, 3), (7, .iload_n 2, 1), (8, .invokestatic 59, 3), (11, .ifCond .eq 14, 3), (14, .iload_n 3, 1), (15, .iconst 1, 1), (16, .if_icmp .lt 9, 3), (19, .iload_n 3, 1), (20, .bipush 127, 2), (22, .if_icmp .le 5, 3), (25, .iconst (-1), 1), (26, .ireturn, 1), (27, .aload_n 0, 1), (28, .getfield 10, 3), (31, .iload_n 1, 1), (32, .iload_n 2, 1), (33, .invokevirtual 62, 3), (36, .istore 4, 2), (38, .iload 4, 2), (40, .iconst (-1), 1), (41, .if_icmp .ne 16, 3), (44, .aload_n 0, 1), (45, .getfield 10, 3), (48, .invokevirtual 66, 3), (51, .ifCond .ne 6, 3), (54, .bipush (-3), 2), (56, .ireturn, 1), (57, .aload_n 0, 1), (58, .getfield 22, 3), (61, .aload_n 0, 1), (62, .getfield 10, 3), (65, .invokevirtual 70, 3), (68, .iload 4, 2), (70, .iconst (-1), 1), (71, .if_icmp .ne 14, 3), (74, .aload_n 0, 1), (75, .getfield 10, 3), (78, .iload_n 1, 1)]
theorem DX7_knock_0_ok : ∀ q ∈ DX7_knock_0, decode cX7_knock q.1 = .ok (q.2.1, q.2.2) := by decide +kernel
theorem dX7_knock_0 : decode cX7_knock 0 = .ok (.iload_n 1, 1) := dd_all DX7_knock_0_ok 0 rfl
theorem dX7_knock_1 : decode cX7_knock 1 = .ok (.invokestatic 55, 3) := dd_all DX7_knock_0_ok 1 rfl
theorem dX7_knock_4 : decode cX7_knock 4 = .ok (.ifCond .eq 21, 3) := dd_all DX7_knock_0_ok 2 rfl
theorem dX7_knock_7 : decode cX7_knock 7 = .ok (.iload_n 2, 1) := dd_all DX7_knock_0_ok 3 rfl
theorem dX7_knock_8 : decode cX7_knock 8 = .ok (.invokestatic 59, 3) := dd_all DX7_knock_0_ok 4 rfl
theorem dX7_knock_11 : decode cX7_knock 11 = .ok (.ifCond .eq 14, 3) := dd_all DX7_knock_0_ok 5 rfl
theorem dX7_knock_14 : decode cX7_knock 14 = .ok (.iload_n 3, 1) := dd_all DX7_knock_0_ok 6 rfl
theorem dX7_knock_15 : decode cX7_knock 15 = .ok (.iconst 1, 1) := dd_all DX7_knock_0_ok 7 rfl
theorem dX7_knock_16 : decode cX7_knock 16 = .ok (.if_icmp .lt 9, 3) := dd_all DX7_knock_0_ok 8 rfl
theorem dX7_knock_19 : decode cX7_knock 19 = .ok (.iload_n 3, 1) := dd_all DX7_knock_0_ok 9 rfl
theorem dX7_knock_20 : decode cX7_knock 20 = .ok (.bipush 127, 2) := dd_all DX7_knock_0_ok 10 rfl
theorem dX7_knock_22 : decode cX7_knock 22 = .ok (.if_icmp .le 5, 3) := dd_all DX7_knock_0_ok 11 rfl
theorem dX7_knock_25 : decode cX7_knock 25 = .ok (.iconst (-1), 1) := dd_all DX7_knock_0_ok 12 rfl
theorem dX7_knock_26 : decode cX7_knock 26 = .ok (.ireturn, 1) := dd_all DX7_knock_0_ok 13 rfl
theorem dX7_knock_27 : decode cX7_knock 27 = .ok (.aload_n 0, 1) := dd_all DX7_knock_0_ok 14 rfl
theorem dX7_knock_28 : decode cX7_knock 28 = .ok (.getfield 10, 3) := dd_all DX7_knock_0_ok 15 rfl
theorem dX7_knock_31 : decode cX7_knock 31 = .ok (.iload_n 1, 1) := dd_all DX7_knock_0_ok 16 rfl
theorem dX7_knock_32 : decode cX7_knock 32 = .ok (.iload_n 2, 1) := dd_all DX7_knock_0_ok 17 rfl
theorem dX7_knock_33 : decode cX7_knock 33 = .ok (.invokevirtual 62, 3) := dd_all DX7_knock_0_ok 18 rfl
theorem dX7_knock_36 : decode cX7_knock 36 = .ok (.istore 4, 2) := dd_all DX7_knock_0_ok 19 rfl
theorem dX7_knock_38 : decode cX7_knock 38 = .ok (.iload 4, 2) := dd_all DX7_knock_0_ok 20 rfl
theorem dX7_knock_40 : decode cX7_knock 40 = .ok (.iconst (-1), 1) := dd_all DX7_knock_0_ok 21 rfl
theorem dX7_knock_41 : decode cX7_knock 41 = .ok (.if_icmp .ne 16, 3) := dd_all DX7_knock_0_ok 22 rfl
theorem dX7_knock_44 : decode cX7_knock 44 = .ok (.aload_n 0, 1) := dd_all DX7_knock_0_ok 23 rfl
theorem dX7_knock_45 : decode cX7_knock 45 = .ok (.getfield 10, 3) := dd_all DX7_knock_0_ok 24 rfl
theorem dX7_knock_48 : decode cX7_knock 48 = .ok (.invokevirtual 66, 3) := dd_all DX7_knock_0_ok 25 rfl
theorem dX7_knock_51 : decode cX7_knock 51 = .ok (.ifCond .ne 6, 3) := dd_all DX7_knock_0_ok 26 rfl
theorem dX7_knock_54 : decode cX7_knock 54 = .ok (.bipush (-3), 2) := dd_all DX7_knock_0_ok 27 rfl
theorem dX7_knock_56 : decode cX7_knock 56 = .ok (.ireturn, 1) := dd_all DX7_knock_0_ok 28 rfl
theorem dX7_knock_57 : decode cX7_knock 57 = .ok (.aload_n 0, 1) := dd_all DX7_knock_0_ok 29 rfl
theorem dX7_knock_58 : decode cX7_knock 58 = .ok (.getfield 22, 3) := dd_all DX7_knock_0_ok 30 rfl
theorem dX7_knock_61 : decode cX7_knock 61 = .ok (.aload_n 0, 1) := dd_all DX7_knock_0_ok 31 rfl
theorem dX7_knock_62 : decode cX7_knock 62 = .ok (.getfield 10, 3) := dd_all DX7_knock_0_ok 32 rfl
theorem dX7_knock_65 : decode cX7_knock 65 = .ok (.invokevirtual 70, 3) := dd_all DX7_knock_0_ok 33 rfl
theorem dX7_knock_68 : decode cX7_knock 68 = .ok (.iload 4, 2) := dd_all DX7_knock_0_ok 34 rfl
theorem dX7_knock_70 : decode cX7_knock 70 = .ok (.iconst (-1), 1) := dd_all DX7_knock_0_ok 35 rfl
theorem dX7_knock_71 : decode cX7_knock 71 = .ok (.if_icmp .ne 14, 3) := dd_all DX7_knock_0_ok 36 rfl
theorem dX7_knock_74 : decode cX7_knock 74 = .ok (.aload_n 0, 1) := dd_all DX7_knock_0_ok 37 rfl
theorem dX7_knock_75 : decode cX7_knock 75 = .ok (.getfield 10, 3) := dd_all DX7_knock_0_ok 38 rfl
theorem dX7_knock_78 : decode cX7_knock 78 = .ok (.iload_n 1, 1) := dd_all DX7_knock_0_ok 39 rfl
def DX7_knock_40 : List (Nat × Instr × Nat) := [(79, .iload_n 2, 1), (80, .iload_n 3, 1), (81, .invokevirtual 74, 3), (84, .ireturn, 1), (85, .aload_n 0, 1), (86, .getfield 10, 3), (89, .iload 4, 2), (91, .iload_n 3, 1), (92, .invokevirtual 78, 3), (95, .iload 4, 2), (97, .ireturn, 1)]
theorem DX7_knock_40_ok : ∀ q ∈ DX7_knock_40, decode cX7_knock q.1 = .ok (q.2.1, q.2.2) := by decide +kernel
theorem dX7_knock_79 : decode cX7_knock 79 = .ok (.iload_n 2, 1) := dd_all DX7_knock_40_ok 0 rfl
theorem dX7_knock_80 : decode cX7_knock 80 = .ok (.iload_n 3, 1) := dd_all DX7_knock_40_ok 1 rfl
theorem dX7_knock_81 : decode cX7_knock 81 = .ok (.invokevirtual 74, 3) := dd_all DX7_knock_40_ok 2 rfl
theorem dX7_knock_84 : decode cX7_knock 84 = .ok (.ireturn, 1) := dd_all DX7_knock_40_ok 3 rfl
theorem dX7_knock_85 : decode cX7_knock 85 = .ok (.aload_n 0, 1) := dd_all DX7_knock_40_ok 4 rfl
theorem dX7_knock_86 : decode cX7_knock 86 = .ok (.getfield 10, 3) := dd_all DX7_knock_40_ok 5 rfl
theorem dX7_knock_89 : decode cX7_knock 89 = .ok (.iload 4, 2) := dd_all DX7_knock_40_ok 6 rfl
theorem dX7_knock_91 : decode cX7_knock 91 = .ok (.iload_n 3, 1) := dd_all DX7_knock_40_ok 7 rfl
theorem dX7_knock_92 : decode cX7_knock 92 = .ok (.invokevirtual 78, 3) := dd_all DX7_knock_40_ok 8 rfl
theorem dX7_knock_95 : decode cX7_knock 95 = .ok (.iload 4, 2) := dd_all DX7_knock_40_ok 9 rfl
theorem dX7_knock_97 : decode cX7_knock 97 = .ok (.ireturn, 1) := dd_all DX7_knock_40_ok 10 rfl
def DX7_release_0 : List (Nat × Instr × Nat) := [(0, .iload_n 1, 1), (1, .invokestatic 55, 3), (4, .ifCond .eq 10, 3), (7, .iload_n 2, 1), (8, .invokestatic 59, 3), (11, .ifCond .ne 5, 3), (14, .iconst (-1), 1), (15, .ireturn, 1), (16, .aload_n 0, 1), (17, .getfield 10, 3), (20, .iload_n 1, 1), (21, .iload_n 2, 1), (22, .invokevirtual 82, 3), (25, .istore_n 3, 1), (26, .iload_n 3, 1), (27, .iconst (-1), 1), (28, .if_icmp .ne 13, 3), (31, .aload_n 0, 1), (32, .getfield 10, 3), (35, .iload_n 1, 1), (36, .iload_n 2, 1), (37, .invokevirtual 85, 3), (40, .istore_n 3, 1), (41, .iload_n 3, 1), (42, .iconst (-1), 1), (43, .if_icmp .ne 6, 3), (46, .bipush (-2), 2), (48, .ireturn, 1), (49, .aload_n 0, 1), (50, .getfield 22, 3), (53, .aload_n 0, 1), (54, .getfield 10, 3), (57, .invokevirtual 70, 3), (60, .aload_n 0, 1), (61, .getfield 10, 3), (64, .iload_n 3, 1), (65, .invokevirtual 88, 3), (68, .iload_n 3, 1), (69, .ireturn, 1)]
theorem DX7_release_0_ok : ∀ q ∈ DX7_release_0, decode cX7_release q.1 = .ok (q.2.1, q.2.2) := by decide +kernel
theorem dX7_release_0 : decode cX7_release 0 = .ok (.iload_n 1, 1) := dd_all DX7_release_0_ok 0 rfl
theorem dX7_release_1 : decode cX7_release 1 = .ok (.invokestatic 55, 3) := dd_all DX7_release_0_ok 1 rfl
theorem dX7_release_4 : decode cX7_release 4 = .ok (.ifCond .eq 10, 3) := dd_all DX7_release_0_ok 2 rfl
theorem dX7_release_7 : decode cX7_release 7 = .ok (.iload_n 2, 1) := dd_all DX7_release_0_ok 3 rfl
theorem dX7_release_8 : decode cX7_release 8 = .ok (.invokestatic 59, 3) := dd_all DX7_release_0_ok 4 rfl
theorem dX7_release_11 : decode cX7_release 11 = .ok (.ifCond .ne 5, 3) := dd_all DX7_release_0_ok 5 rfl
theorem dX7_release_14 : decode cX7_release 14 = .ok (.iconst (-1), 1) := dd_all DX7_release_0_ok 6 rfl
theorem dX7_release_15 : decode cX7_release 15 = .ok (.ireturn, 1) := dd_all DX7_release_0_ok 7 rfl
theorem dX7_release_16 : decode cX7_release 16 = .ok (.aload_n 0, 1) := dd_all DX7_release_0_ok 8 rfl
theorem dX7_release_17 : decode cX7_release 17 = .ok (.getfield 10, 3) := dd_all DX7_release_0_ok 9 rfl
theorem dX7_release_20 : decode cX7_release 20 = .ok (.iload_n 1, 1) := dd_all DX7_release_0_ok 10 rfl
theorem dX7_release_21 : decode cX7_release 21 = .ok (.iload_n 2, 1) := dd_all DX7_release_0_ok 11 rfl
theorem dX7_release_22 : decode cX7_release 22 = .ok (.invokevirtual 82, 3) := dd_all DX7_release_0_ok 12 rfl
theorem dX7_release_25 : decode cX7_release 25 = .ok (.istore_n 3, 1) := dd_all DX7_release_0_ok 13 rfl
theorem dX7_release_26 : decode cX7_release 26 = .ok (.iload_n 3, 1) := dd_all DX7_release_0_ok 14 rfl
theorem dX7_release_27 : decode cX7_release 27 = .ok (.iconst (-1), 1) := dd_all DX7_release_0_ok 15 rfl
theorem dX7_release_28 : decode cX7_release 28 = .ok (.if_icmp .ne 13, 3) := dd_all DX7_release_0_ok 16 rfl
theorem dX7_release_31 : decode cX7_release 31 = .ok (.aload_n 0, 1) := dd_all DX7_release_0_ok 17 rfl
theorem dX7_release_32 : decode cX7_release 32 = .ok (.getfield 10, 3) := dd_all DX7_release_0_ok 18 rfl
theorem dX7_release_35 : decode cX7_release 35 = .ok (.iload_n 1, 1) := dd_all DX7_release_0_ok 19 rfl
theorem dX7_release_36 : decode cX7_release 36 = .ok (.iload_n 2, 1) := dd_all DX7_release_0_ok 20 rfl
theorem dX7_release_37 : decode cX7_release 37 = .ok (.invokevirtual 85, 3) := dd_all DX7_release_0_ok 21 rfl
theorem dX7_release_40 : decode cX7_release 40 = .ok (.istore_n 3, 1) := dd_all DX7_release_0_ok 22 rfl
theorem dX7_release_41 : decode cX7_release 41 = .ok (.iload_n 3, 1) := dd_all DX7_release_0_ok 23 rfl
theorem dX7_release_42 : decode cX7_release 42 = .ok (.iconst (-1), 1) := dd_all DX7_release_0_ok 24 rfl
theorem dX7_release_43 : decode cX7_release 43 = .ok (.if_icmp .ne 6, 3) := dd_all DX7_release_0_ok 25 rfl
theorem dX7_release_46 : decode cX7_release 46 = .ok (.bipush (-2), 2) := dd_all DX7_release_0_ok 26 rfl
theorem dX7_release_48 : decode cX7_release 48 = .ok (.ireturn, 1) := dd_all DX7_release_0_ok 27 rfl
theorem dX7_release_49 : decode cX7_release 49 = .ok (.aload_n 0, 1) := dd_all DX7_release_0_ok 28 rfl
theorem dX7_release_50 : decode cX7_release 50 = .ok (.getfield 22, 3) := dd_all DX7_release_0_ok 29 rfl
theorem dX7_release_53 : decode cX7_release 53 = .ok (.aload_n 0, 1) := dd_all DX7_release_0_ok 30 rfl
theorem dX7_release_54 : decode cX7_release 54 = .ok (.getfield 10, 3) := dd_all DX7_release_0_ok 31 rfl
theorem dX7_release_57 : decode cX7_release 57 = .ok (.invokevirtual 70, 3) := dd_all DX7_release_0_ok 32 rfl
theorem dX7_release_60 : decode cX7_release 60 = .ok (.aload_n 0, 1) := dd_all DX7_release_0_ok 33 rfl
theorem dX7_release_61 : decode cX7_release 61 = .ok (.getfield 10, 3) := dd_all DX7_release_0_ok 34 rfl
theorem dX7_release_64 : decode cX7_release 64 = .ok (.iload_n 3, 1) := dd_all DX7_release_0_ok 35 rfl
theorem dX7_release_65 : decode cX7_release 65 = .ok (.invokevirtual 88, 3) := dd_all DX7_release_0_ok 36 rfl
theorem dX7_release_68 : decode cX7_release 68 = .ok (.iload_n 3, 1) := dd_all DX7_release_0_ok 37 rfl
theorem dX7_release_69 : decode cX7_release 69 = .ok (.ireturn, 1) := dd_all DX7_release_0_ok 38 rfl
def DX7_pedal_0 : List (Nat × Instr × Nat) := [(0, .iload_n 1, 1), (1, .ifCond .lt 8, 3), (4, .iload_n 1, 1), (5, .iconst 1, 1), (6, .if_icmp .le 5, 3), (9, .iconst (-1), 1), (10, .ireturn, 1), (11, .iload_n 1, 1), (12, .aload_n 0, 1), (13, .getfield 10, 3), (16, .getfield 92, 3), (19, .if_icmp .ne 6, 3), (22, .bipush (-2), 2), (24, .ireturn, 1), (25, .aload_n 0, 1), (26, .getfield 22, 3), (29, .aload_n 0, 1), (30, .getfield 10, 3), (33, .invokevirtual 70, 3), (36, .aload_n 0, 1), (37, .getfield 10, 3), (40, .iload_n 1, 1), (41, .invokevirtual 96, 3), (44, .ireturn, 1)]
theorem DX7_pedal_0_ok : ∀ q ∈ DX7_pedal_0, decode cX7_pedal q.1 = .ok (q.2.1, q.2.2) := by decide +kernel
theorem dX7_pedal_0 : decode cX7_pedal 0 = .ok (.iload_n 1, 1) := dd_all DX7_pedal_0_ok 0 rfl
theorem dX7_pedal_1 : decode cX7_pedal 1 = .ok (.ifCond .lt 8, 3) := dd_all DX7_pedal_0_ok 1 rfl
theorem dX7_pedal_4 : decode cX7_pedal 4 = .ok (.iload_n 1, 1) := dd_all DX7_pedal_0_ok 2 rfl
theorem dX7_pedal_5 : decode cX7_pedal 5 = .ok (.iconst 1, 1) := dd_all DX7_pedal_0_ok 3 rfl
theorem dX7_pedal_6 : decode cX7_pedal 6 = .ok (.if_icmp .le 5, 3) := dd_all DX7_pedal_0_ok 4 rfl
theorem dX7_pedal_9 : decode cX7_pedal 9 = .ok (.iconst (-1), 1) := dd_all DX7_pedal_0_ok 5 rfl
theorem dX7_pedal_10 : decode cX7_pedal 10 = .ok (.ireturn, 1) := dd_all DX7_pedal_0_ok 6 rfl
theorem dX7_pedal_11 : decode cX7_pedal 11 = .ok (.iload_n 1, 1) := dd_all DX7_pedal_0_ok 7 rfl
theorem dX7_pedal_12 : decode cX7_pedal 12 = .ok (.aload_n 0, 1) := dd_all DX7_pedal_0_ok 8 rfl
theorem dX7_pedal_13 : decode cX7_pedal 13 = .ok (.getfield 10, 3) := dd_all DX7_pedal_0_ok 9 rfl
theorem dX7_pedal_16 : decode cX7_pedal 16 = .ok (.getfield 92, 3) := dd_all DX7_pedal_0_ok 10 rfl
theorem dX7_pedal_19 : decode cX7_pedal 19 = .ok (.if_icmp .ne 6, 3) := dd_all DX7_pedal_0_ok 11 rfl
theorem dX7_pedal_22 : decode cX7_pedal 22 = .ok (.bipush (-2), 2) := dd_all DX7_pedal_0_ok 12 rfl
theorem dX7_pedal_24 : decode cX7_pedal 24 = .ok (.ireturn, 1) := dd_all DX7_pedal_0_ok 13 rfl
theorem dX7_pedal_25 : decode cX7_pedal 25 = .ok (.aload_n 0, 1) := dd_all DX7_pedal_0_ok 14 rfl
theorem dX7_pedal_26 : decode cX7_pedal 26 = .ok (.getfield 22, 3) := dd_all DX7_pedal_0_ok 15 rfl
theorem dX7_pedal_29 : decode cX7_pedal 29 = .ok (.aload_n 0, 1) := dd_all DX7_pedal_0_ok 16 rfl
theorem dX7_pedal_30 : decode cX7_pedal 30 = .ok (.getfield 10, 3) := dd_all DX7_pedal_0_ok 17 rfl
theorem dX7_pedal_33 : decode cX7_pedal 33 = .ok (.invokevirtual 70, 3) := dd_all DX7_pedal_0_ok 18 rfl
theorem dX7_pedal_36 : decode cX7_pedal 36 = .ok (.aload_n 0, 1) := dd_all DX7_pedal_0_ok 19 rfl
theorem dX7_pedal_37 : decode cX7_pedal 37 = .ok (.getfield 10, 3) := dd_all DX7_pedal_0_ok 20 rfl
theorem dX7_pedal_40 : decode cX7_pedal 40 = .ok (.iload_n 1, 1) := dd_all DX7_pedal_0_ok 21 rfl
theorem dX7_pedal_41 : decode cX7_pedal 41 = .ok (.invokevirtual 96, 3) := dd_all DX7_pedal_0_ok 22 rfl
theorem dX7_pedal_44 : decode cX7_pedal 44 = .ok (.ireturn, 1) := dd_all DX7_pedal_0_ok 23 rfl
def DX7_tick_0 : List (Nat × Instr × Nat) := [(0, .iload_n 1, 1), (1, .iconst 1, 1), (2, .if_icmp .lt 9, 3), (5, .iload_n 1, 1), (6, .bipush 100, 2), (8, .if_icmp .le 5, 3), (11, .iconst (-1), 1), (12, .ireturn, 1), (13, .aload_n 0, 1), (14, .getfield 10, 3), (17, .getfield 100, 3), (20, .iload_n 1, 1), (21, .iadd, 1), (22, .ldc 103, 2), (24, .if_icmp .le 6, 3), (27, .bipush (-3), 2), (29, .ireturn, 1), (30, .aload_n 0, 1), (31, .getfield 22, 3), (34, .aload_n 0, 1), (35, .getfield 10, 3), (38, .invokevirtual 70, 3), (41, .iconst 0, 1), (42, .istore_n 2, 1), (43, .iload_n 2, 1), (44, .iload_n 1, 1), (45, .if_icmp .ge 16, 3), (48, .aload_n 0, 1), (49, .getfield 10, 3), (52, .invokevirtual 104, 3), (55, .iinc 2 1, 3), (58, .goto (-15), 3), (61, .aload_n 0, 1), (62, .getfield 10, 3), (65, .invokevirtual 107, 3), (68, .ireturn, 1)]
theorem DX7_tick_0_ok : ∀ q ∈ DX7_tick_0, decode cX7_tick q.1 = .ok (q.2.1, q.2.2) := by decide +kernel
theorem dX7_tick_0 : decode cX7_tick 0 = .ok (.iload_n 1, 1) := dd_all DX7_tick_0_ok 0 rfl
theorem dX7_tick_1 : decode cX7_tick 1 = .ok (.iconst 1, 1) := dd_all DX7_tick_0_ok 1 rfl
theorem dX7_tick_2 : decode cX7_tick 2 = .ok (.if_icmp .lt 9, 3) := dd_all DX7_tick_0_ok 2 rfl
theorem dX7_tick_5 : decode cX7_tick 5 = .ok (.iload_n 1, 1) := dd_all DX7_tick_0_ok 3 rfl
theorem dX7_tick_6 : decode cX7_tick 6 = .ok (.bipush 100, 2) := dd_all DX7_tick_0_ok 4 rfl
theorem dX7_tick_8 : decode cX7_tick 8 = .ok (.if_icmp .le 5, 3) := dd_all DX7_tick_0_ok 5 rfl
theorem dX7_tick_11 : decode cX7_tick 11 = .ok (.iconst (-1), 1) := dd_all DX7_tick_0_ok 6 rfl
theorem dX7_tick_12 : decode cX7_tick 12 = .ok (.ireturn, 1) := dd_all DX7_tick_0_ok 7 rfl
theorem dX7_tick_13 : decode cX7_tick 13 = .ok (.aload_n 0, 1) := dd_all DX7_tick_0_ok 8 rfl
theorem dX7_tick_14 : decode cX7_tick 14 = .ok (.getfield 10, 3) := dd_all DX7_tick_0_ok 9 rfl
theorem dX7_tick_17 : decode cX7_tick 17 = .ok (.getfield 100, 3) := dd_all DX7_tick_0_ok 10 rfl
theorem dX7_tick_20 : decode cX7_tick 20 = .ok (.iload_n 1, 1) := dd_all DX7_tick_0_ok 11 rfl
theorem dX7_tick_21 : decode cX7_tick 21 = .ok (.iadd, 1) := dd_all DX7_tick_0_ok 12 rfl
theorem dX7_tick_22 : decode cX7_tick 22 = .ok (.ldc 103, 2) := dd_all DX7_tick_0_ok 13 rfl
theorem dX7_tick_24 : decode cX7_tick 24 = .ok (.if_icmp .le 6, 3) := dd_all DX7_tick_0_ok 14 rfl
theorem dX7_tick_27 : decode cX7_tick 27 = .ok (.bipush (-3), 2) := dd_all DX7_tick_0_ok 15 rfl
theorem dX7_tick_29 : decode cX7_tick 29 = .ok (.ireturn, 1) := dd_all DX7_tick_0_ok 16 rfl
theorem dX7_tick_30 : decode cX7_tick 30 = .ok (.aload_n 0, 1) := dd_all DX7_tick_0_ok 17 rfl
theorem dX7_tick_31 : decode cX7_tick 31 = .ok (.getfield 22, 3) := dd_all DX7_tick_0_ok 18 rfl
theorem dX7_tick_34 : decode cX7_tick 34 = .ok (.aload_n 0, 1) := dd_all DX7_tick_0_ok 19 rfl
theorem dX7_tick_35 : decode cX7_tick 35 = .ok (.getfield 10, 3) := dd_all DX7_tick_0_ok 20 rfl
theorem dX7_tick_38 : decode cX7_tick 38 = .ok (.invokevirtual 70, 3) := dd_all DX7_tick_0_ok 21 rfl
theorem dX7_tick_41 : decode cX7_tick 41 = .ok (.iconst 0, 1) := dd_all DX7_tick_0_ok 22 rfl
theorem dX7_tick_42 : decode cX7_tick 42 = .ok (.istore_n 2, 1) := dd_all DX7_tick_0_ok 23 rfl
theorem dX7_tick_43 : decode cX7_tick 43 = .ok (.iload_n 2, 1) := dd_all DX7_tick_0_ok 24 rfl
theorem dX7_tick_44 : decode cX7_tick 44 = .ok (.iload_n 1, 1) := dd_all DX7_tick_0_ok 25 rfl
theorem dX7_tick_45 : decode cX7_tick 45 = .ok (.if_icmp .ge 16, 3) := dd_all DX7_tick_0_ok 26 rfl
theorem dX7_tick_48 : decode cX7_tick 48 = .ok (.aload_n 0, 1) := dd_all DX7_tick_0_ok 27 rfl
theorem dX7_tick_49 : decode cX7_tick 49 = .ok (.getfield 10, 3) := dd_all DX7_tick_0_ok 28 rfl
theorem dX7_tick_52 : decode cX7_tick 52 = .ok (.invokevirtual 104, 3) := dd_all DX7_tick_0_ok 29 rfl
theorem dX7_tick_55 : decode cX7_tick 55 = .ok (.iinc 2 1, 3) := dd_all DX7_tick_0_ok 30 rfl
theorem dX7_tick_58 : decode cX7_tick 58 = .ok (.goto (-15), 3) := dd_all DX7_tick_0_ok 31 rfl
theorem dX7_tick_61 : decode cX7_tick 61 = .ok (.aload_n 0, 1) := dd_all DX7_tick_0_ok 32 rfl
theorem dX7_tick_62 : decode cX7_tick 62 = .ok (.getfield 10, 3) := dd_all DX7_tick_0_ok 33 rfl
theorem dX7_tick_65 : decode cX7_tick 65 = .ok (.invokevirtual 107, 3) := dd_all DX7_tick_0_ok 34 rfl
theorem dX7_tick_68 : decode cX7_tick 68 = .ok (.ireturn, 1) := dd_all DX7_tick_0_ok 35 rfl
def DX7_set_0 : List (Nat × Instr × Nat) := [(0, .iload_n 1, 1), (1, .ifCond .lt 30, 3), (4, .iload_n 1, 1), (5, .iconst 3, 1), (6, .if_icmp .ge 25, 3), (9, .iload_n 2, 1), (10, .getstatic 111, 3), (13, .iload_n 1, 1), (14, .invokestatic 114, 3), (17, .if_icmp .lt 14, 3), (20, .iload_n 2, 1), (21, .getstatic 118, 3), (24, .iload_n 1, 1), (25, .invokestatic 114, 3), (28, .if_icmp .le 5, 3), (31, .iconst (-1), 1), (32, .ireturn, 1), (33, .aload_n 0, 1), (34, .getfield 22, 3), (37, .aload_n 0, 1), (38, .getfield 10, 3), (41, .invokevirtual 70, 3), (44, .aload_n 0, 1), (45, .getfield 10, 3), (48, .getfield 121, 3), (51, .iload_n 1, 1), (52, .invokestatic 114, 3), (55, .istore_n 3, 1), (56, .aload_n 0, 1), (57, .getfield 10, 3), (60, .getfield 121, 3), (63, .iload_n 1, 1), (64, .iload_n 2, 1), (65, .invokestatic 124, 3), (68, .iload_n 3, 1), (69, .ireturn, 1)]
theorem DX7_set_0_ok : ∀ q ∈ DX7_set_0, decode cX7_set q.1 = .ok (q.2.1, q.2.2) := by decide +kernel
theorem dX7_set_0 : decode cX7_set 0 = .ok (.iload_n 1, 1) := dd_all DX7_set_0_ok 0 rfl
theorem dX7_set_1 : decode cX7_set 1 = .ok (.ifCond .lt 30, 3) := dd_all DX7_set_0_ok 1 rfl
theorem dX7_set_4 : decode cX7_set 4 = .ok (.iload_n 1, 1) := dd_all DX7_set_0_ok 2 rfl
theorem dX7_set_5 : decode cX7_set 5 = .ok (.iconst 3, 1) := dd_all DX7_set_0_ok 3 rfl
theorem dX7_set_6 : decode cX7_set 6 = .ok (.if_icmp .ge 25, 3) := dd_all DX7_set_0_ok 4 rfl
theorem dX7_set_9 : decode cX7_set 9 = .ok (.iload_n 2, 1) := dd_all DX7_set_0_ok 5 rfl
theorem dX7_set_10 : decode cX7_set 10 = .ok (.getstatic 111, 3) := dd_all DX7_set_0_ok 6 rfl
theorem dX7_set_13 : decode cX7_set 13 = .ok (.iload_n 1, 1) := dd_all DX7_set_0_ok 7 rfl
theorem dX7_set_14 : decode cX7_set 14 = .ok (.invokestatic 114, 3) := dd_all DX7_set_0_ok 8 rfl
theorem dX7_set_17 : decode cX7_set 17 = .ok (.if_icmp .lt 14, 3) := dd_all DX7_set_0_ok 9 rfl
theorem dX7_set_20 : decode cX7_set 20 = .ok (.iload_n 2, 1) := dd_all DX7_set_0_ok 10 rfl
theorem dX7_set_21 : decode cX7_set 21 = .ok (.getstatic 118, 3) := dd_all DX7_set_0_ok 11 rfl
theorem dX7_set_24 : decode cX7_set 24 = .ok (.iload_n 1, 1) := dd_all DX7_set_0_ok 12 rfl
theorem dX7_set_25 : decode cX7_set 25 = .ok (.invokestatic 114, 3) := dd_all DX7_set_0_ok 13 rfl
theorem dX7_set_28 : decode cX7_set 28 = .ok (.if_icmp .le 5, 3) := dd_all DX7_set_0_ok 14 rfl
theorem dX7_set_31 : decode cX7_set 31 = .ok (.iconst (-1), 1) := dd_all DX7_set_0_ok 15 rfl
theorem dX7_set_32 : decode cX7_set 32 = .ok (.ireturn, 1) := dd_all DX7_set_0_ok 16 rfl
theorem dX7_set_33 : decode cX7_set 33 = .ok (.aload_n 0, 1) := dd_all DX7_set_0_ok 17 rfl
theorem dX7_set_34 : decode cX7_set 34 = .ok (.getfield 22, 3) := dd_all DX7_set_0_ok 18 rfl
theorem dX7_set_37 : decode cX7_set 37 = .ok (.aload_n 0, 1) := dd_all DX7_set_0_ok 19 rfl
theorem dX7_set_38 : decode cX7_set 38 = .ok (.getfield 10, 3) := dd_all DX7_set_0_ok 20 rfl
theorem dX7_set_41 : decode cX7_set 41 = .ok (.invokevirtual 70, 3) := dd_all DX7_set_0_ok 21 rfl
theorem dX7_set_44 : decode cX7_set 44 = .ok (.aload_n 0, 1) := dd_all DX7_set_0_ok 22 rfl
theorem dX7_set_45 : decode cX7_set 45 = .ok (.getfield 10, 3) := dd_all DX7_set_0_ok 23 rfl
theorem dX7_set_48 : decode cX7_set 48 = .ok (.getfield 121, 3) := dd_all DX7_set_0_ok 24 rfl
theorem dX7_set_51 : decode cX7_set 51 = .ok (.iload_n 1, 1) := dd_all DX7_set_0_ok 25 rfl
theorem dX7_set_52 : decode cX7_set 52 = .ok (.invokestatic 114, 3) := dd_all DX7_set_0_ok 26 rfl
theorem dX7_set_55 : decode cX7_set 55 = .ok (.istore_n 3, 1) := dd_all DX7_set_0_ok 27 rfl
theorem dX7_set_56 : decode cX7_set 56 = .ok (.aload_n 0, 1) := dd_all DX7_set_0_ok 28 rfl
theorem dX7_set_57 : decode cX7_set 57 = .ok (.getfield 10, 3) := dd_all DX7_set_0_ok 29 rfl
theorem dX7_set_60 : decode cX7_set 60 = .ok (.getfield 121, 3) := dd_all DX7_set_0_ok 30 rfl
theorem dX7_set_63 : decode cX7_set 63 = .ok (.iload_n 1, 1) := dd_all DX7_set_0_ok 31 rfl
theorem dX7_set_64 : decode cX7_set 64 = .ok (.iload_n 2, 1) := dd_all DX7_set_0_ok 32 rfl
theorem dX7_set_65 : decode cX7_set 65 = .ok (.invokestatic 124, 3) := dd_all DX7_set_0_ok 33 rfl
theorem dX7_set_68 : decode cX7_set 68 = .ok (.iload_n 3, 1) := dd_all DX7_set_0_ok 34 rfl
theorem dX7_set_69 : decode cX7_set 69 = .ok (.ireturn, 1) := dd_all DX7_set_0_ok 35 rfl
def DX7_noteOf_0 : List (Nat × Instr × Nat) := [(0, .iload_n 1, 1), (1, .ifCond .lt 17, 3), (4, .iload_n 1, 1), (5, .aload_n 0, 1), (6, .getfield 10, 3), (9, .getfield 128, 3), (12, .getfield 132, 3), (15, .if_icmp .lt 5, 3), (18, .iconst (-1), 1), (19, .ireturn, 1), (20, .iload_n 2, 1), (21, .tableswitch 206 0 7 #[47, 62, 77, 92, 107, 141, 176, 191], 47), (68, .aload_n 0, 1), (69, .getfield 10, 3), (72, .getfield 128, 3), (75, .getfield 137, 3), (78, .iload_n 1, 1), (79, .invokestatic 114, 3), (82, .ireturn, 1), (83, .aload_n 0, 1), (84, .getfield 10, 3), (87, .getfield 128, 3), (90, .getfield 140, 3), (93, .iload_n 1, 1), (94, .invokestatic 114, 3), (97, .ireturn, 1), (98, .aload_n 0, 1), (99, .getfield 10, 3), (102, .getfield 128, 3), (105, .getfield 143, 3), (108, .iload_n 1, 1), (109, .invokestatic 114, 3), (112, .ireturn, 1), (113, .aload_n 0, 1), (114, .getfield 10, 3), (117, .getfield 128, 3), (120, .getfield 146, 3), (123, .iload_n 1, 1), (124, .invokestatic 114, 3), (127, .ireturn, 1)]
theorem DX7_noteOf_0_ok : ∀ q ∈ DX7_noteOf_0, decode cX7_noteOf q.1 = .ok (q.2.1, q.2.2) := by decide +kernel
theorem dX7_noteOf_0 : decode cX7_noteOf 0 = .ok (.iload_n 1, 1) := dd_all DX7_noteOf_0_ok 0 rfl
theorem dX7_noteOf_1 : decode cX7_noteOf 1 = .ok (.ifCond .lt 17, 3) := dd_all DX7_noteOf_0_ok 1 rfl
theorem dX7_noteOf_4 : decode cX7_noteOf 4 = .ok (.iload_n 1, 1) := dd_all DX7_noteOf_0_ok 2 rfl
theorem dX7_noteOf_5 : decode cX7_noteOf 5 = .ok (.aload_n 0, 1) := dd_all DX7_noteOf_0_ok 3 rfl
theorem dX7_noteOf_6 : decode cX7_noteOf 6 = .ok (.getfield 10, 3) := dd_all DX7_noteOf_0_ok 4 rfl
theorem dX7_noteOf_9 : decode cX7_noteOf 9 = .ok (.getfield 128, 3) := dd_all DX7_noteOf_0_ok 5 rfl
theorem dX7_noteOf_12 : decode cX7_noteOf 12 = .ok (.getfield 132, 3) := dd_all DX7_noteOf_0_ok 6 rfl
theorem dX7_noteOf_15 : decode cX7_noteOf 15 = .ok (.if_icmp .lt 5, 3) := dd_all DX7_noteOf_0_ok 7 rfl
theorem dX7_noteOf_18 : decode cX7_noteOf 18 = .ok (.iconst (-1), 1) := dd_all DX7_noteOf_0_ok 8 rfl
theorem dX7_noteOf_19 : decode cX7_noteOf 19 = .ok (.ireturn, 1) := dd_all DX7_noteOf_0_ok 9 rfl
theorem dX7_noteOf_20 : decode cX7_noteOf 20 = .ok (.iload_n 2, 1) := dd_all DX7_noteOf_0_ok 10 rfl
theorem dX7_noteOf_21 : decode cX7_noteOf 21 = .ok (.tableswitch 206 0 7 #[47, 62, 77, 92, 107, 141, 176, 191], 47) := dd_all DX7_noteOf_0_ok 11 rfl
theorem dX7_noteOf_68 : decode cX7_noteOf 68 = .ok (.aload_n 0, 1) := dd_all DX7_noteOf_0_ok 12 rfl
theorem dX7_noteOf_69 : decode cX7_noteOf 69 = .ok (.getfield 10, 3) := dd_all DX7_noteOf_0_ok 13 rfl
theorem dX7_noteOf_72 : decode cX7_noteOf 72 = .ok (.getfield 128, 3) := dd_all DX7_noteOf_0_ok 14 rfl
theorem dX7_noteOf_75 : decode cX7_noteOf 75 = .ok (.getfield 137, 3) := dd_all DX7_noteOf_0_ok 15 rfl
theorem dX7_noteOf_78 : decode cX7_noteOf 78 = .ok (.iload_n 1, 1) := dd_all DX7_noteOf_0_ok 16 rfl
theorem dX7_noteOf_79 : decode cX7_noteOf 79 = .ok (.invokestatic 114, 3) := dd_all DX7_noteOf_0_ok 17 rfl
theorem dX7_noteOf_82 : decode cX7_noteOf 82 = .ok (.ireturn, 1) := dd_all DX7_noteOf_0_ok 18 rfl
theorem dX7_noteOf_83 : decode cX7_noteOf 83 = .ok (.aload_n 0, 1) := dd_all DX7_noteOf_0_ok 19 rfl
theorem dX7_noteOf_84 : decode cX7_noteOf 84 = .ok (.getfield 10, 3) := dd_all DX7_noteOf_0_ok 20 rfl
theorem dX7_noteOf_87 : decode cX7_noteOf 87 = .ok (.getfield 128, 3) := dd_all DX7_noteOf_0_ok 21 rfl
theorem dX7_noteOf_90 : decode cX7_noteOf 90 = .ok (.getfield 140, 3) := dd_all DX7_noteOf_0_ok 22 rfl
theorem dX7_noteOf_93 : decode cX7_noteOf 93 = .ok (.iload_n 1, 1) := dd_all DX7_noteOf_0_ok 23 rfl
theorem dX7_noteOf_94 : decode cX7_noteOf 94 = .ok (.invokestatic 114, 3) := dd_all DX7_noteOf_0_ok 24 rfl
theorem dX7_noteOf_97 : decode cX7_noteOf 97 = .ok (.ireturn, 1) := dd_all DX7_noteOf_0_ok 25 rfl
theorem dX7_noteOf_98 : decode cX7_noteOf 98 = .ok (.aload_n 0, 1) := dd_all DX7_noteOf_0_ok 26 rfl
theorem dX7_noteOf_99 : decode cX7_noteOf 99 = .ok (.getfield 10, 3) := dd_all DX7_noteOf_0_ok 27 rfl
theorem dX7_noteOf_102 : decode cX7_noteOf 102 = .ok (.getfield 128, 3) := dd_all DX7_noteOf_0_ok 28 rfl
theorem dX7_noteOf_105 : decode cX7_noteOf 105 = .ok (.getfield 143, 3) := dd_all DX7_noteOf_0_ok 29 rfl
theorem dX7_noteOf_108 : decode cX7_noteOf 108 = .ok (.iload_n 1, 1) := dd_all DX7_noteOf_0_ok 30 rfl
theorem dX7_noteOf_109 : decode cX7_noteOf 109 = .ok (.invokestatic 114, 3) := dd_all DX7_noteOf_0_ok 31 rfl
theorem dX7_noteOf_112 : decode cX7_noteOf 112 = .ok (.ireturn, 1) := dd_all DX7_noteOf_0_ok 32 rfl
theorem dX7_noteOf_113 : decode cX7_noteOf 113 = .ok (.aload_n 0, 1) := dd_all DX7_noteOf_0_ok 33 rfl
theorem dX7_noteOf_114 : decode cX7_noteOf 114 = .ok (.getfield 10, 3) := dd_all DX7_noteOf_0_ok 34 rfl
theorem dX7_noteOf_117 : decode cX7_noteOf 117 = .ok (.getfield 128, 3) := dd_all DX7_noteOf_0_ok 35 rfl
theorem dX7_noteOf_120 : decode cX7_noteOf 120 = .ok (.getfield 146, 3) := dd_all DX7_noteOf_0_ok 36 rfl
theorem dX7_noteOf_123 : decode cX7_noteOf 123 = .ok (.iload_n 1, 1) := dd_all DX7_noteOf_0_ok 37 rfl
theorem dX7_noteOf_124 : decode cX7_noteOf 124 = .ok (.invokestatic 114, 3) := dd_all DX7_noteOf_0_ok 38 rfl
theorem dX7_noteOf_127 : decode cX7_noteOf 127 = .ok (.ireturn, 1) := dd_all DX7_noteOf_0_ok 39 rfl
def DX7_noteOf_40 : List (Nat × Instr × Nat) := [(128, .aload_n 0, 1), (129, .getfield 10, 3), (132, .getfield 128, 3), (135, .iload_n 1, 1), (136, .invokevirtual 149, 3), (139, .ifCond .eq 20, 3), (142, .aload_n 0, 1), (143, .getfield 10, 3), (146, .getfield 128, 3), (149, .getfield 152, 3), (152, .iload_n 1, 1), (153, .invokestatic 114, 3), (156, .goto 5, 3), (159, .bipush (-4), 2), (161, .ireturn, 1), (162, .aload_n 0, 1), (163, .getfield 10, 3), (166, .getfield 128, 3), (169, .iload_n 1, 1), (170, .invokevirtual 149, 3), (173, .ifCond .eq 21, 3), (176, .aload_n 0, 1), (177, .getfield 10, 3), (180, .iload_n 1, 1), (181, .aload_n 0, 1), (182, .getfield 10, 3), (185, .invokevirtual 107, 3), (188, .invokevirtual 155, 3), (191, .goto 5, 3), (194, .bipush (-4), 2), (196, .ireturn, 1), (197, .aload_n 0, 1), (198, .getfield 10, 3), (201, .getfield 128, 3), (204, .getfield 158, 3), (207, .iload_n 1, 1), (208, .invokestatic 114, 3), (211, .ireturn, 1), (212, .aload_n 0, 1), (213, .getfield 10, 3)]
theorem DX7_noteOf_40_ok : ∀ q ∈ DX7_noteOf_40, decode cX7_noteOf q.1 = .ok (q.2.1, q.2.2) := by decide +kernel
theorem dX7_noteOf_128 : decode cX7_noteOf 128 = .ok (.aload_n 0, 1) := dd_all DX7_noteOf_40_ok 0 rfl
theorem dX7_noteOf_129 : decode cX7_noteOf 129 = .ok (.getfield 10, 3) := dd_all DX7_noteOf_40_ok 1 rfl
theorem dX7_noteOf_132 : decode cX7_noteOf 132 = .ok (.getfield 128, 3) := dd_all DX7_noteOf_40_ok 2 rfl
theorem dX7_noteOf_135 : decode cX7_noteOf 135 = .ok (.iload_n 1, 1) := dd_all DX7_noteOf_40_ok 3 rfl
theorem dX7_noteOf_136 : decode cX7_noteOf 136 = .ok (.invokevirtual 149, 3) := dd_all DX7_noteOf_40_ok 4 rfl
theorem dX7_noteOf_139 : decode cX7_noteOf 139 = .ok (.ifCond .eq 20, 3) := dd_all DX7_noteOf_40_ok 5 rfl
theorem dX7_noteOf_142 : decode cX7_noteOf 142 = .ok (.aload_n 0, 1) := dd_all DX7_noteOf_40_ok 6 rfl
theorem dX7_noteOf_143 : decode cX7_noteOf 143 = .ok (.getfield 10, 3) := dd_all DX7_noteOf_40_ok 7 rfl
theorem dX7_noteOf_146 : decode cX7_noteOf 146 = .ok (.getfield 128, 3) := dd_all DX7_noteOf_40_ok 8 rfl
theorem dX7_noteOf_149 : decode cX7_noteOf 149 = .ok (.getfield 152, 3) := dd_all DX7_noteOf_40_ok 9 rfl
theorem dX7_noteOf_152 : decode cX7_noteOf 152 = .ok (.iload_n 1, 1) := dd_all DX7_noteOf_40_ok 10 rfl
theorem dX7_noteOf_153 : decode cX7_noteOf 153 = .ok (.invokestatic 114, 3) := dd_all DX7_noteOf_40_ok 11 rfl
theorem dX7_noteOf_156 : decode cX7_noteOf 156 = .ok (.goto 5, 3) := dd_all DX7_noteOf_40_ok 12 rfl
theorem dX7_noteOf_159 : decode cX7_noteOf 159 = .ok (.bipush (-4), 2) := dd_all DX7_noteOf_40_ok 13 rfl
theorem dX7_noteOf_161 : decode cX7_noteOf 161 = .ok (.ireturn, 1) := dd_all DX7_noteOf_40_ok 14 rfl
theorem dX7_noteOf_162 : decode cX7_noteOf 162 = .ok (.aload_n 0, 1) := dd_all DX7_noteOf_40_ok 15 rfl
theorem dX7_noteOf_163 : decode cX7_noteOf 163 = .ok (.getfield 10, 3) := dd_all DX7_noteOf_40_ok 16 rfl
theorem dX7_noteOf_166 : decode cX7_noteOf 166 = .ok (.getfield 128, 3) := dd_all DX7_noteOf_40_ok 17 rfl
theorem dX7_noteOf_169 : decode cX7_noteOf 169 = .ok (.iload_n 1, 1) := dd_all DX7_noteOf_40_ok 18 rfl
theorem dX7_noteOf_170 : decode cX7_noteOf 170 = .ok (.invokevirtual 149, 3) := dd_all DX7_noteOf_40_ok 19 rfl
theorem dX7_noteOf_173 : decode cX7_noteOf 173 = .ok (.ifCond .eq 21, 3) := dd_all DX7_noteOf_40_ok 20 rfl
theorem dX7_noteOf_176 : decode cX7_noteOf 176 = .ok (.aload_n 0, 1) := dd_all DX7_noteOf_40_ok 21 rfl
theorem dX7_noteOf_177 : decode cX7_noteOf 177 = .ok (.getfield 10, 3) := dd_all DX7_noteOf_40_ok 22 rfl
theorem dX7_noteOf_180 : decode cX7_noteOf 180 = .ok (.iload_n 1, 1) := dd_all DX7_noteOf_40_ok 23 rfl
theorem dX7_noteOf_181 : decode cX7_noteOf 181 = .ok (.aload_n 0, 1) := dd_all DX7_noteOf_40_ok 24 rfl
theorem dX7_noteOf_182 : decode cX7_noteOf 182 = .ok (.getfield 10, 3) := dd_all DX7_noteOf_40_ok 25 rfl
theorem dX7_noteOf_185 : decode cX7_noteOf 185 = .ok (.invokevirtual 107, 3) := dd_all DX7_noteOf_40_ok 26 rfl
theorem dX7_noteOf_188 : decode cX7_noteOf 188 = .ok (.invokevirtual 155, 3) := dd_all DX7_noteOf_40_ok 27 rfl
theorem dX7_noteOf_191 : decode cX7_noteOf 191 = .ok (.goto 5, 3) := dd_all DX7_noteOf_40_ok 28 rfl
theorem dX7_noteOf_194 : decode cX7_noteOf 194 = .ok (.bipush (-4), 2) := dd_all DX7_noteOf_40_ok 29 rfl
theorem dX7_noteOf_196 : decode cX7_noteOf 196 = .ok (.ireturn, 1) := dd_all DX7_noteOf_40_ok 30 rfl
theorem dX7_noteOf_197 : decode cX7_noteOf 197 = .ok (.aload_n 0, 1) := dd_all DX7_noteOf_40_ok 31 rfl
theorem dX7_noteOf_198 : decode cX7_noteOf 198 = .ok (.getfield 10, 3) := dd_all DX7_noteOf_40_ok 32 rfl
theorem dX7_noteOf_201 : decode cX7_noteOf 201 = .ok (.getfield 128, 3) := dd_all DX7_noteOf_40_ok 33 rfl
theorem dX7_noteOf_204 : decode cX7_noteOf 204 = .ok (.getfield 158, 3) := dd_all DX7_noteOf_40_ok 34 rfl
theorem dX7_noteOf_207 : decode cX7_noteOf 207 = .ok (.iload_n 1, 1) := dd_all DX7_noteOf_40_ok 35 rfl
theorem dX7_noteOf_208 : decode cX7_noteOf 208 = .ok (.invokestatic 114, 3) := dd_all DX7_noteOf_40_ok 36 rfl
theorem dX7_noteOf_211 : decode cX7_noteOf 211 = .ok (.ireturn, 1) := dd_all DX7_noteOf_40_ok 37 rfl
theorem dX7_noteOf_212 : decode cX7_noteOf 212 = .ok (.aload_n 0, 1) := dd_all DX7_noteOf_40_ok 38 rfl
theorem dX7_noteOf_213 : decode cX7_noteOf 213 = .ok (.getfield 10, 3) := dd_all DX7_noteOf_40_ok 39 rfl
def DX7_noteOf_80 : List (Nat × Instr × Nat) := [(216, .getfield 161, 3), (219, .iload_n 1, 1), (220, .invokevirtual 165, 3), (223, .invokestatic 170, 3), (226, .ireturn, 1), (227, .iconst (-1), 1), (228, .ireturn, 1)]
theorem DX7_noteOf_80_ok : ∀ q ∈ DX7_noteOf_80, decode cX7_noteOf q.1 = .ok (q.2.1, q.2.2) := by decide +kernel
theorem dX7_noteOf_216 : decode cX7_noteOf 216 = .ok (.getfield 161, 3) := dd_all DX7_noteOf_80_ok 0 rfl
theorem dX7_noteOf_219 : decode cX7_noteOf 219 = .ok (.iload_n 1, 1) := dd_all DX7_noteOf_80_ok 1 rfl
theorem dX7_noteOf_220 : decode cX7_noteOf 220 = .ok (.invokevirtual 165, 3) := dd_all DX7_noteOf_80_ok 2 rfl
theorem dX7_noteOf_223 : decode cX7_noteOf 223 = .ok (.invokestatic 170, 3) := dd_all DX7_noteOf_80_ok 3 rfl
theorem dX7_noteOf_226 : decode cX7_noteOf 226 = .ok (.ireturn, 1) := dd_all DX7_noteOf_80_ok 4 rfl
theorem dX7_noteOf_227 : decode cX7_noteOf 227 = .ok (.iconst (-1), 1) := dd_all DX7_noteOf_80_ok 5 rfl
theorem dX7_noteOf_228 : decode cX7_noteOf 228 = .ok (.ireturn, 1) := dd_all DX7_noteOf_80_ok 6 rfl
def DX7_voiceAt_0 : List (Nat × Instr × Nat) := [(0, .iload_n 1, 1), (1, .ifCond .ge 5, 3), (4, .iconst (-1), 1), (5, .ireturn, 1), (6, .aload_n 0, 1), (7, .getfield 10, 3), (10, .getfield 173, 3), (13, .iload_n 1, 1), (14, .invokevirtual 176, 3), (17, .invokestatic 170, 3), (20, .ireturn, 1)]
theorem DX7_voiceAt_0_ok : ∀ q ∈ DX7_voiceAt_0, decode cX7_voiceAt q.1 = .ok (q.2.1, q.2.2) := by decide +kernel
theorem dX7_voiceAt_0 : decode cX7_voiceAt 0 = .ok (.iload_n 1, 1) := dd_all DX7_voiceAt_0_ok 0 rfl
theorem dX7_voiceAt_1 : decode cX7_voiceAt 1 = .ok (.ifCond .ge 5, 3) := dd_all DX7_voiceAt_0_ok 1 rfl
theorem dX7_voiceAt_4 : decode cX7_voiceAt 4 = .ok (.iconst (-1), 1) := dd_all DX7_voiceAt_0_ok 2 rfl
theorem dX7_voiceAt_5 : decode cX7_voiceAt 5 = .ok (.ireturn, 1) := dd_all DX7_voiceAt_0_ok 3 rfl
theorem dX7_voiceAt_6 : decode cX7_voiceAt 6 = .ok (.aload_n 0, 1) := dd_all DX7_voiceAt_0_ok 4 rfl
theorem dX7_voiceAt_7 : decode cX7_voiceAt 7 = .ok (.getfield 10, 3) := dd_all DX7_voiceAt_0_ok 5 rfl
theorem dX7_voiceAt_10 : decode cX7_voiceAt 10 = .ok (.getfield 173, 3) := dd_all DX7_voiceAt_0_ok 6 rfl
theorem dX7_voiceAt_13 : decode cX7_voiceAt 13 = .ok (.iload_n 1, 1) := dd_all DX7_voiceAt_0_ok 7 rfl
theorem dX7_voiceAt_14 : decode cX7_voiceAt 14 = .ok (.invokevirtual 176, 3) := dd_all DX7_voiceAt_0_ok 8 rfl
theorem dX7_voiceAt_17 : decode cX7_voiceAt 17 = .ok (.invokestatic 170, 3) := dd_all DX7_voiceAt_0_ok 9 rfl
theorem dX7_voiceAt_20 : decode cX7_voiceAt 20 = .ok (.ireturn, 1) := dd_all DX7_voiceAt_0_ok 10 rfl
def DX7_find_0 : List (Nat × Instr × Nat) := [(0, .iload_n 1, 1), (1, .invokestatic 55, 3), (4, .ifCond .eq 10, 3), (7, .iload_n 2, 1), (8, .invokestatic 59, 3), (11, .ifCond .ne 5, 3), (14, .iconst (-1), 1), (15, .ireturn, 1), (16, .aload_n 0, 1), (17, .getfield 10, 3), (20, .iload_n 1, 1), (21, .iload_n 2, 1), (22, .invokevirtual 62, 3), (25, .invokestatic 170, 3), (28, .ireturn, 1)]
theorem DX7_find_0_ok : ∀ q ∈ DX7_find_0, decode cX7_find q.1 = .ok (q.2.1, q.2.2) := by decide +kernel
theorem dX7_find_0 : decode cX7_find 0 = .ok (.iload_n 1, 1) := dd_all DX7_find_0_ok 0 rfl
theorem dX7_find_1 : decode cX7_find 1 = .ok (.invokestatic 55, 3) := dd_all DX7_find_0_ok 1 rfl
theorem dX7_find_4 : decode cX7_find 4 = .ok (.ifCond .eq 10, 3) := dd_all DX7_find_0_ok 2 rfl
theorem dX7_find_7 : decode cX7_find 7 = .ok (.iload_n 2, 1) := dd_all DX7_find_0_ok 3 rfl
theorem dX7_find_8 : decode cX7_find 8 = .ok (.invokestatic 59, 3) := dd_all DX7_find_0_ok 4 rfl
theorem dX7_find_11 : decode cX7_find 11 = .ok (.ifCond .ne 5, 3) := dd_all DX7_find_0_ok 5 rfl
theorem dX7_find_14 : decode cX7_find 14 = .ok (.iconst (-1), 1) := dd_all DX7_find_0_ok 6 rfl
theorem dX7_find_15 : decode cX7_find 15 = .ok (.ireturn, 1) := dd_all DX7_find_0_ok 7 rfl
theorem dX7_find_16 : decode cX7_find 16 = .ok (.aload_n 0, 1) := dd_all DX7_find_0_ok 8 rfl
theorem dX7_find_17 : decode cX7_find 17 = .ok (.getfield 10, 3) := dd_all DX7_find_0_ok 9 rfl
theorem dX7_find_20 : decode cX7_find 20 = .ok (.iload_n 1, 1) := dd_all DX7_find_0_ok 10 rfl
theorem dX7_find_21 : decode cX7_find 21 = .ok (.iload_n 2, 1) := dd_all DX7_find_0_ok 11 rfl
theorem dX7_find_22 : decode cX7_find 22 = .ok (.invokevirtual 62, 3) := dd_all DX7_find_0_ok 12 rfl
theorem dX7_find_25 : decode cX7_find 25 = .ok (.invokestatic 170, 3) := dd_all DX7_find_0_ok 13 rfl
theorem dX7_find_28 : decode cX7_find 28 = .ok (.ireturn, 1) := dd_all DX7_find_0_ok 14 rfl
def DX7_partOf_0 : List (Nat × Instr × Nat) := [(0, .iload_n 1, 1), (1, .invokestatic 55, 3), (4, .ifCond .ne 5, 3), (7, .iconst (-1), 1), (8, .ireturn, 1), (9, .iload_n 2, 1), (10, .tableswitch 123 0 4 #[34, 50, 66, 98, 107], 34), (44, .aload_n 0, 1), (45, .getfield 10, 3), (48, .aload_n 0, 1), (49, .getfield 10, 3), (52, .getfield 173, 3), (55, .iload_n 1, 1), (56, .invokevirtual 179, 3), (59, .ireturn, 1), (60, .aload_n 0, 1), (61, .getfield 10, 3), (64, .aload_n 0, 1), (65, .getfield 10, 3), (68, .getfield 183, 3), (71, .iload_n 1, 1), (72, .invokevirtual 179, 3), (75, .ireturn, 1), (76, .aload_n 0, 1), (77, .getfield 10, 3), (80, .aload_n 0, 1), (81, .getfield 10, 3), (84, .getfield 173, 3), (87, .iload_n 1, 1), (88, .invokevirtual 186, 3), (91, .aload_n 0, 1), (92, .getfield 10, 3), (95, .aload_n 0, 1), (96, .getfield 10, 3), (99, .getfield 183, 3), (102, .iload_n 1, 1), (103, .invokevirtual 186, 3), (106, .iadd, 1), (107, .ireturn, 1), (108, .aload_n 0, 1)]
theorem DX7_partOf_0_ok : ∀ q ∈ DX7_partOf_0, decode cX7_partOf q.1 = .ok (q.2.1, q.2.2) := by decide +kernel
theorem dX7_partOf_0 : decode cX7_partOf 0 = .ok (.iload_n 1, 1) := dd_all DX7_partOf_0_ok 0 rfl
theorem dX7_partOf_1 : decode cX7_partOf 1 = .ok (.invokestatic 55, 3) := dd_all DX7_partOf_0_ok 1 rfl
theorem dX7_partOf_4 : decode cX7_partOf 4 = .ok (.ifCond .ne 5, 3) := dd_all DX7_partOf_0_ok 2 rfl
theorem dX7_partOf_7 : decode cX7_partOf 7 = .ok (.iconst (-1), 1) := dd_all DX7_partOf_0_ok 3 rfl
theorem dX7_partOf_8 : decode cX7_partOf 8 = .ok (.ireturn, 1) := dd_all DX7_partOf_0_ok 4 rfl
theorem dX7_partOf_9 : decode cX7_partOf 9 = .ok (.iload_n 2, 1) := dd_all DX7_partOf_0_ok 5 rfl
theorem dX7_partOf_10 : decode cX7_partOf 10 = .ok (.tableswitch 123 0 4 #[34, 50, 66, 98, 107], 34) := dd_all DX7_partOf_0_ok 6 rfl
theorem dX7_partOf_44 : decode cX7_partOf 44 = .ok (.aload_n 0, 1) := dd_all DX7_partOf_0_ok 7 rfl
theorem dX7_partOf_45 : decode cX7_partOf 45 = .ok (.getfield 10, 3) := dd_all DX7_partOf_0_ok 8 rfl
theorem dX7_partOf_48 : decode cX7_partOf 48 = .ok (.aload_n 0, 1) := dd_all DX7_partOf_0_ok 9 rfl
theorem dX7_partOf_49 : decode cX7_partOf 49 = .ok (.getfield 10, 3) := dd_all DX7_partOf_0_ok 10 rfl
theorem dX7_partOf_52 : decode cX7_partOf 52 = .ok (.getfield 173, 3) := dd_all DX7_partOf_0_ok 11 rfl
theorem dX7_partOf_55 : decode cX7_partOf 55 = .ok (.iload_n 1, 1) := dd_all DX7_partOf_0_ok 12 rfl
theorem dX7_partOf_56 : decode cX7_partOf 56 = .ok (.invokevirtual 179, 3) := dd_all DX7_partOf_0_ok 13 rfl
theorem dX7_partOf_59 : decode cX7_partOf 59 = .ok (.ireturn, 1) := dd_all DX7_partOf_0_ok 14 rfl
theorem dX7_partOf_60 : decode cX7_partOf 60 = .ok (.aload_n 0, 1) := dd_all DX7_partOf_0_ok 15 rfl
theorem dX7_partOf_61 : decode cX7_partOf 61 = .ok (.getfield 10, 3) := dd_all DX7_partOf_0_ok 16 rfl
theorem dX7_partOf_64 : decode cX7_partOf 64 = .ok (.aload_n 0, 1) := dd_all DX7_partOf_0_ok 17 rfl
theorem dX7_partOf_65 : decode cX7_partOf 65 = .ok (.getfield 10, 3) := dd_all DX7_partOf_0_ok 18 rfl
theorem dX7_partOf_68 : decode cX7_partOf 68 = .ok (.getfield 183, 3) := dd_all DX7_partOf_0_ok 19 rfl
theorem dX7_partOf_71 : decode cX7_partOf 71 = .ok (.iload_n 1, 1) := dd_all DX7_partOf_0_ok 20 rfl
theorem dX7_partOf_72 : decode cX7_partOf 72 = .ok (.invokevirtual 179, 3) := dd_all DX7_partOf_0_ok 21 rfl
theorem dX7_partOf_75 : decode cX7_partOf 75 = .ok (.ireturn, 1) := dd_all DX7_partOf_0_ok 22 rfl
theorem dX7_partOf_76 : decode cX7_partOf 76 = .ok (.aload_n 0, 1) := dd_all DX7_partOf_0_ok 23 rfl
theorem dX7_partOf_77 : decode cX7_partOf 77 = .ok (.getfield 10, 3) := dd_all DX7_partOf_0_ok 24 rfl
theorem dX7_partOf_80 : decode cX7_partOf 80 = .ok (.aload_n 0, 1) := dd_all DX7_partOf_0_ok 25 rfl
theorem dX7_partOf_81 : decode cX7_partOf 81 = .ok (.getfield 10, 3) := dd_all DX7_partOf_0_ok 26 rfl
theorem dX7_partOf_84 : decode cX7_partOf 84 = .ok (.getfield 173, 3) := dd_all DX7_partOf_0_ok 27 rfl
theorem dX7_partOf_87 : decode cX7_partOf 87 = .ok (.iload_n 1, 1) := dd_all DX7_partOf_0_ok 28 rfl
theorem dX7_partOf_88 : decode cX7_partOf 88 = .ok (.invokevirtual 186, 3) := dd_all DX7_partOf_0_ok 29 rfl
theorem dX7_partOf_91 : decode cX7_partOf 91 = .ok (.aload_n 0, 1) := dd_all DX7_partOf_0_ok 30 rfl
theorem dX7_partOf_92 : decode cX7_partOf 92 = .ok (.getfield 10, 3) := dd_all DX7_partOf_0_ok 31 rfl
theorem dX7_partOf_95 : decode cX7_partOf 95 = .ok (.aload_n 0, 1) := dd_all DX7_partOf_0_ok 32 rfl
theorem dX7_partOf_96 : decode cX7_partOf 96 = .ok (.getfield 10, 3) := dd_all DX7_partOf_0_ok 33 rfl
theorem dX7_partOf_99 : decode cX7_partOf 99 = .ok (.getfield 183, 3) := dd_all DX7_partOf_0_ok 34 rfl
theorem dX7_partOf_102 : decode cX7_partOf 102 = .ok (.iload_n 1, 1) := dd_all DX7_partOf_0_ok 35 rfl
theorem dX7_partOf_103 : decode cX7_partOf 103 = .ok (.invokevirtual 186, 3) := dd_all DX7_partOf_0_ok 36 rfl
theorem dX7_partOf_106 : decode cX7_partOf 106 = .ok (.iadd, 1) := dd_all DX7_partOf_0_ok 37 rfl
theorem dX7_partOf_107 : decode cX7_partOf 107 = .ok (.ireturn, 1) := dd_all DX7_partOf_0_ok 38 rfl
theorem dX7_partOf_108 : decode cX7_partOf 108 = .ok (.aload_n 0, 1) := dd_all DX7_partOf_0_ok 39 rfl
def DX7_partOf_40 : List (Nat × Instr × Nat) := [(109, .getfield 10, 3), (112, .iload_n 1, 1), (113, .invokevirtual 189, 3), (116, .ireturn, 1), (117, .aload_n 0, 1), (118, .getfield 10, 3), (121, .aload_n 0, 1), (122, .getfield 10, 3), (125, .getfield 161, 3), (128, .iload_n 1, 1), (129, .invokevirtual 179, 3), (132, .ireturn, 1), (133, .iconst (-1), 1), (134, .ireturn, 1)]
theorem DX7_partOf_40_ok : ∀ q ∈ DX7_partOf_40, decode cX7_partOf q.1 = .ok (q.2.1, q.2.2) := by decide +kernel
theorem dX7_partOf_109 : decode cX7_partOf 109 = .ok (.getfield 10, 3) := dd_all DX7_partOf_40_ok 0 rfl
theorem dX7_partOf_112 : decode cX7_partOf 112 = .ok (.iload_n 1, 1) := dd_all DX7_partOf_40_ok 1 rfl
theorem dX7_partOf_113 : decode cX7_partOf 113 = .ok (.invokevirtual 189, 3) := dd_all DX7_partOf_40_ok 2 rfl
theorem dX7_partOf_116 : decode cX7_partOf 116 = .ok (.ireturn, 1) := dd_all DX7_partOf_40_ok 3 rfl
theorem dX7_partOf_117 : decode cX7_partOf 117 = .ok (.aload_n 0, 1) := dd_all DX7_partOf_40_ok 4 rfl
theorem dX7_partOf_118 : decode cX7_partOf 118 = .ok (.getfield 10, 3) := dd_all DX7_partOf_40_ok 5 rfl
theorem dX7_partOf_121 : decode cX7_partOf 121 = .ok (.aload_n 0, 1) := dd_all DX7_partOf_40_ok 6 rfl
theorem dX7_partOf_122 : decode cX7_partOf 122 = .ok (.getfield 10, 3) := dd_all DX7_partOf_40_ok 7 rfl
theorem dX7_partOf_125 : decode cX7_partOf 125 = .ok (.getfield 161, 3) := dd_all DX7_partOf_40_ok 8 rfl
theorem dX7_partOf_128 : decode cX7_partOf 128 = .ok (.iload_n 1, 1) := dd_all DX7_partOf_40_ok 9 rfl
theorem dX7_partOf_129 : decode cX7_partOf 129 = .ok (.invokevirtual 179, 3) := dd_all DX7_partOf_40_ok 10 rfl
theorem dX7_partOf_132 : decode cX7_partOf 132 = .ok (.ireturn, 1) := dd_all DX7_partOf_40_ok 11 rfl
theorem dX7_partOf_133 : decode cX7_partOf 133 = .ok (.iconst (-1), 1) := dd_all DX7_partOf_40_ok 12 rfl
theorem dX7_partOf_134 : decode cX7_partOf 134 = .ok (.ireturn, 1) := dd_all DX7_partOf_40_ok 13 rfl
def DX7_count_0 : List (Nat × Instr × Nat) := [(0, .iload_n 1, 1), (1, .tableswitch 259 0 22 #[107, 118, 129, 137, 148, 159, 167, 175, 183, 191, 199, 207, 215, 259, 259, 259, 259, 259, 259, 259, 223, 235, 247], 107), (108, .aload_n 0, 1), (109, .getfield 10, 3), (112, .getfield 128, 3), (115, .getfield 132, 3), (118, .ireturn, 1), (119, .aload_n 0, 1), (120, .getfield 10, 3), (123, .getfield 173, 3), (126, .getfield 192, 3), (129, .ireturn, 1), (130, .aload_n 0, 1), (131, .getfield 10, 3), (134, .invokevirtual 193, 3), (137, .ireturn, 1), (138, .aload_n 0, 1), (139, .getfield 10, 3), (142, .getfield 183, 3), (145, .getfield 192, 3), (148, .ireturn, 1), (149, .aload_n 0, 1), (150, .getfield 10, 3), (153, .getfield 161, 3), (156, .getfield 192, 3), (159, .ireturn, 1), (160, .aload_n 0, 1), (161, .getfield 10, 3), (164, .getfield 100, 3), (167, .ireturn, 1), (168, .aload_n 0, 1), (169, .getfield 10, 3), (172, .invokevirtual 107, 3), (175, .ireturn, 1), (176, .aload_n 0, 1), (177, .getfield 10, 3), (180, .invokevirtual 196, 3), (183, .ireturn, 1), (184, .aload_n 0, 1), (185, .getfield 10, 3)]
theorem DX7_count_0_ok : ∀ q ∈ DX7_count_0, decode cX7_count q.1 = .ok (q.2.1, q.2.2) := by decide +kernel
theorem dX7_count_0 : decode cX7_count 0 = .ok (.iload_n 1, 1) := dd_all DX7_count_0_ok 0 rfl
theorem dX7_count_1 : decode cX7_count 1 = .ok (.tableswitch 259 0 22 #[107, 118, 129, 137, 148, 159, 167, 175, 183, 191, 199, 207, 215, 259, 259, 259, 259, 259, 259, 259, 223, 235, 247], 107) := dd_all DX7_count_0_ok 1 rfl
theorem dX7_count_108 : decode cX7_count 108 = .ok (.aload_n 0, 1) := dd_all DX7_count_0_ok 2 rfl
theorem dX7_count_109 : decode cX7_count 109 = .ok (.getfield 10, 3) := dd_all DX7_count_0_ok 3 rfl
theorem dX7_count_112 : decode cX7_count 112 = .ok (.getfield 128, 3) := dd_all DX7_count_0_ok 4 rfl
theorem dX7_count_115 : decode cX7_count 115 = .ok (.getfield 132, 3) := dd_all DX7_count_0_ok 5 rfl
theorem dX7_count_118 : decode cX7_count 118 = .ok (.ireturn, 1) := dd_all DX7_count_0_ok 6 rfl
theorem dX7_count_119 : decode cX7_count 119 = .ok (.aload_n 0, 1) := dd_all DX7_count_0_ok 7 rfl
theorem dX7_count_120 : decode cX7_count 120 = .ok (.getfield 10, 3) := dd_all DX7_count_0_ok 8 rfl
theorem dX7_count_123 : decode cX7_count 123 = .ok (.getfield 173, 3) := dd_all DX7_count_0_ok 9 rfl
theorem dX7_count_126 : decode cX7_count 126 = .ok (.getfield 192, 3) := dd_all DX7_count_0_ok 10 rfl
theorem dX7_count_129 : decode cX7_count 129 = .ok (.ireturn, 1) := dd_all DX7_count_0_ok 11 rfl
theorem dX7_count_130 : decode cX7_count 130 = .ok (.aload_n 0, 1) := dd_all DX7_count_0_ok 12 rfl
theorem dX7_count_131 : decode cX7_count 131 = .ok (.getfield 10, 3) := dd_all DX7_count_0_ok 13 rfl
theorem dX7_count_134 : decode cX7_count 134 = .ok (.invokevirtual 193, 3) := dd_all DX7_count_0_ok 14 rfl
theorem dX7_count_137 : decode cX7_count 137 = .ok (.ireturn, 1) := dd_all DX7_count_0_ok 15 rfl
theorem dX7_count_138 : decode cX7_count 138 = .ok (.aload_n 0, 1) := dd_all DX7_count_0_ok 16 rfl
theorem dX7_count_139 : decode cX7_count 139 = .ok (.getfield 10, 3) := dd_all DX7_count_0_ok 17 rfl
theorem dX7_count_142 : decode cX7_count 142 = .ok (.getfield 183, 3) := dd_all DX7_count_0_ok 18 rfl
theorem dX7_count_145 : decode cX7_count 145 = .ok (.getfield 192, 3) := dd_all DX7_count_0_ok 19 rfl
theorem dX7_count_148 : decode cX7_count 148 = .ok (.ireturn, 1) := dd_all DX7_count_0_ok 20 rfl
theorem dX7_count_149 : decode cX7_count 149 = .ok (.aload_n 0, 1) := dd_all DX7_count_0_ok 21 rfl
theorem dX7_count_150 : decode cX7_count 150 = .ok (.getfield 10, 3) := dd_all DX7_count_0_ok 22 rfl
theorem dX7_count_153 : decode cX7_count 153 = .ok (.getfield 161, 3) := dd_all DX7_count_0_ok 23 rfl
theorem dX7_count_156 : decode cX7_count 156 = .ok (.getfield 192, 3) := dd_all DX7_count_0_ok 24 rfl
theorem dX7_count_159 : decode cX7_count 159 = .ok (.ireturn, 1) := dd_all DX7_count_0_ok 25 rfl
theorem dX7_count_160 : decode cX7_count 160 = .ok (.aload_n 0, 1) := dd_all DX7_count_0_ok 26 rfl
theorem dX7_count_161 : decode cX7_count 161 = .ok (.getfield 10, 3) := dd_all DX7_count_0_ok 27 rfl
theorem dX7_count_164 : decode cX7_count 164 = .ok (.getfield 100, 3) := dd_all DX7_count_0_ok 28 rfl
theorem dX7_count_167 : decode cX7_count 167 = .ok (.ireturn, 1) := dd_all DX7_count_0_ok 29 rfl
theorem dX7_count_168 : decode cX7_count 168 = .ok (.aload_n 0, 1) := dd_all DX7_count_0_ok 30 rfl
theorem dX7_count_169 : decode cX7_count 169 = .ok (.getfield 10, 3) := dd_all DX7_count_0_ok 31 rfl
theorem dX7_count_172 : decode cX7_count 172 = .ok (.invokevirtual 107, 3) := dd_all DX7_count_0_ok 32 rfl
theorem dX7_count_175 : decode cX7_count 175 = .ok (.ireturn, 1) := dd_all DX7_count_0_ok 33 rfl
theorem dX7_count_176 : decode cX7_count 176 = .ok (.aload_n 0, 1) := dd_all DX7_count_0_ok 34 rfl
theorem dX7_count_177 : decode cX7_count 177 = .ok (.getfield 10, 3) := dd_all DX7_count_0_ok 35 rfl
theorem dX7_count_180 : decode cX7_count 180 = .ok (.invokevirtual 196, 3) := dd_all DX7_count_0_ok 36 rfl
theorem dX7_count_183 : decode cX7_count 183 = .ok (.ireturn, 1) := dd_all DX7_count_0_ok 37 rfl
theorem dX7_count_184 : decode cX7_count 184 = .ok (.aload_n 0, 1) := dd_all DX7_count_0_ok 38 rfl
theorem dX7_count_185 : decode cX7_count 185 = .ok (.getfield 10, 3) := dd_all DX7_count_0_ok 39 rfl
def DX7_count_40 : List (Nat × Instr × Nat) := [(188, .getfield 92, 3), (191, .ireturn, 1), (192, .aload_n 0, 1), (193, .getfield 10, 3), (196, .getfield 199, 3), (199, .ireturn, 1), (200, .aload_n 0, 1), (201, .getfield 10, 3), (204, .getfield 202, 3), (207, .ireturn, 1), (208, .aload_n 0, 1), (209, .getfield 22, 3), (212, .getfield 205, 3), (215, .ireturn, 1), (216, .aload_n 0, 1), (217, .getfield 33, 3), (220, .getfield 206, 3), (223, .ireturn, 1), (224, .aload_n 0, 1), (225, .getfield 10, 3), (228, .getfield 121, 3), (231, .iconst 0, 1), (232, .invokestatic 114, 3), (235, .ireturn, 1), (236, .aload_n 0, 1), (237, .getfield 10, 3), (240, .getfield 121, 3), (243, .iconst 1, 1), (244, .invokestatic 114, 3), (247, .ireturn, 1), (248, .aload_n 0, 1), (249, .getfield 10, 3), (252, .getfield 121, 3), (255, .iconst 2, 1), (256, .invokestatic 114, 3), (259, .ireturn, 1), (260, .iconst (-1), 1), (261, .ireturn, 1)]
theorem DX7_count_40_ok : ∀ q ∈ DX7_count_40, decode cX7_count q.1 = .ok (q.2.1, q.2.2) := by decide +kernel
theorem dX7_count_188 : decode cX7_count 188 = .ok (.getfield 92, 3) := dd_all DX7_count_40_ok 0 rfl
theorem dX7_count_191 : decode cX7_count 191 = .ok (.ireturn, 1) := dd_all DX7_count_40_ok 1 rfl
theorem dX7_count_192 : decode cX7_count 192 = .ok (.aload_n 0, 1) := dd_all DX7_count_40_ok 2 rfl
theorem dX7_count_193 : decode cX7_count 193 = .ok (.getfield 10, 3) := dd_all DX7_count_40_ok 3 rfl
theorem dX7_count_196 : decode cX7_count 196 = .ok (.getfield 199, 3) := dd_all DX7_count_40_ok 4 rfl
theorem dX7_count_199 : decode cX7_count 199 = .ok (.ireturn, 1) := dd_all DX7_count_40_ok 5 rfl
theorem dX7_count_200 : decode cX7_count 200 = .ok (.aload_n 0, 1) := dd_all DX7_count_40_ok 6 rfl
theorem dX7_count_201 : decode cX7_count 201 = .ok (.getfield 10, 3) := dd_all DX7_count_40_ok 7 rfl
theorem dX7_count_204 : decode cX7_count 204 = .ok (.getfield 202, 3) := dd_all DX7_count_40_ok 8 rfl
theorem dX7_count_207 : decode cX7_count 207 = .ok (.ireturn, 1) := dd_all DX7_count_40_ok 9 rfl
theorem dX7_count_208 : decode cX7_count 208 = .ok (.aload_n 0, 1) := dd_all DX7_count_40_ok 10 rfl
theorem dX7_count_209 : decode cX7_count 209 = .ok (.getfield 22, 3) := dd_all DX7_count_40_ok 11 rfl
theorem dX7_count_212 : decode cX7_count 212 = .ok (.getfield 205, 3) := dd_all DX7_count_40_ok 12 rfl
theorem dX7_count_215 : decode cX7_count 215 = .ok (.ireturn, 1) := dd_all DX7_count_40_ok 13 rfl
theorem dX7_count_216 : decode cX7_count 216 = .ok (.aload_n 0, 1) := dd_all DX7_count_40_ok 14 rfl
theorem dX7_count_217 : decode cX7_count 217 = .ok (.getfield 33, 3) := dd_all DX7_count_40_ok 15 rfl
theorem dX7_count_220 : decode cX7_count 220 = .ok (.getfield 206, 3) := dd_all DX7_count_40_ok 16 rfl
theorem dX7_count_223 : decode cX7_count 223 = .ok (.ireturn, 1) := dd_all DX7_count_40_ok 17 rfl
theorem dX7_count_224 : decode cX7_count 224 = .ok (.aload_n 0, 1) := dd_all DX7_count_40_ok 18 rfl
theorem dX7_count_225 : decode cX7_count 225 = .ok (.getfield 10, 3) := dd_all DX7_count_40_ok 19 rfl
theorem dX7_count_228 : decode cX7_count 228 = .ok (.getfield 121, 3) := dd_all DX7_count_40_ok 20 rfl
theorem dX7_count_231 : decode cX7_count 231 = .ok (.iconst 0, 1) := dd_all DX7_count_40_ok 21 rfl
theorem dX7_count_232 : decode cX7_count 232 = .ok (.invokestatic 114, 3) := dd_all DX7_count_40_ok 22 rfl
theorem dX7_count_235 : decode cX7_count 235 = .ok (.ireturn, 1) := dd_all DX7_count_40_ok 23 rfl
theorem dX7_count_236 : decode cX7_count 236 = .ok (.aload_n 0, 1) := dd_all DX7_count_40_ok 24 rfl
theorem dX7_count_237 : decode cX7_count 237 = .ok (.getfield 10, 3) := dd_all DX7_count_40_ok 25 rfl
theorem dX7_count_240 : decode cX7_count 240 = .ok (.getfield 121, 3) := dd_all DX7_count_40_ok 26 rfl
theorem dX7_count_243 : decode cX7_count 243 = .ok (.iconst 1, 1) := dd_all DX7_count_40_ok 27 rfl
theorem dX7_count_244 : decode cX7_count 244 = .ok (.invokestatic 114, 3) := dd_all DX7_count_40_ok 28 rfl
theorem dX7_count_247 : decode cX7_count 247 = .ok (.ireturn, 1) := dd_all DX7_count_40_ok 29 rfl
theorem dX7_count_248 : decode cX7_count 248 = .ok (.aload_n 0, 1) := dd_all DX7_count_40_ok 30 rfl
theorem dX7_count_249 : decode cX7_count 249 = .ok (.getfield 10, 3) := dd_all DX7_count_40_ok 31 rfl
theorem dX7_count_252 : decode cX7_count 252 = .ok (.getfield 121, 3) := dd_all DX7_count_40_ok 32 rfl
theorem dX7_count_255 : decode cX7_count 255 = .ok (.iconst 2, 1) := dd_all DX7_count_40_ok 33 rfl
theorem dX7_count_256 : decode cX7_count 256 = .ok (.invokestatic 114, 3) := dd_all DX7_count_40_ok 34 rfl
theorem dX7_count_259 : decode cX7_count 259 = .ok (.ireturn, 1) := dd_all DX7_count_40_ok 35 rfl
theorem dX7_count_260 : decode cX7_count 260 = .ok (.iconst (-1), 1) := dd_all DX7_count_40_ok 36 rfl
theorem dX7_count_261 : decode cX7_count 261 = .ok (.ireturn, 1) := dd_all DX7_count_40_ok 37 rfl
def DX7_next_0 : List (Nat × Instr × Nat) := [(0, .aload_n 0, 1), (1, .getfield 10, 3), (4, .invokevirtual 209, 3), (7, .invokestatic 170, 3), (10, .ireturn, 1)]
theorem DX7_next_0_ok : ∀ q ∈ DX7_next_0, decode cX7_next q.1 = .ok (q.2.1, q.2.2) := by decide +kernel
theorem dX7_next_0 : decode cX7_next 0 = .ok (.aload_n 0, 1) := dd_all DX7_next_0_ok 0 rfl
theorem dX7_next_1 : decode cX7_next 1 = .ok (.getfield 10, 3) := dd_all DX7_next_0_ok 1 rfl
theorem dX7_next_4 : decode cX7_next 4 = .ok (.invokevirtual 209, 3) := dd_all DX7_next_0_ok 2 rfl
theorem dX7_next_7 : decode cX7_next 7 = .ok (.invokestatic 170, 3) := dd_all DX7_next_0_ok 3 rfl
theorem dX7_next_10 : decode cX7_next 10 = .ok (.ireturn, 1) := dd_all DX7_next_0_ok 4 rfl
def DX7_mix_0 : List (Nat × Instr × Nat) := [(0, .iconst 0, 1), (1, .istore_n 1, 1), (2, .iload_n 1, 1), (3, .iconst 4, 1), (4, .if_icmp .ge 25, 3), (7, .aload_n 0, 1), (8, .getfield 51, 3), (11, .iload_n 1, 1), (12, .aload_n 0, 1), (13, .getfield 10, 3), (16, .iload_n 1, 1), (17, .invokevirtual 189, 3), (20, .invokestatic 124, 3), (23, .iinc 1 1, 3), (26, .goto (-24), 3), (29, .aload_n 0, 1), (30, .getfield 47, 3), (33, .aload_n 0, 1), (34, .getfield 10, 3), (37, .getfield 241, 3), (40, .aload_n 0, 1), (41, .getfield 51, 3), (44, .invokevirtual 249, 3), (47, .ireturn, 1)]
theorem DX7_mix_0_ok : ∀ q ∈ DX7_mix_0, decode cX7_mix q.1 = .ok (q.2.1, q.2.2) := by decide +kernel
theorem dX7_mix_0 : decode cX7_mix 0 = .ok (.iconst 0, 1) := dd_all DX7_mix_0_ok 0 rfl
theorem dX7_mix_1 : decode cX7_mix 1 = .ok (.istore_n 1, 1) := dd_all DX7_mix_0_ok 1 rfl
theorem dX7_mix_2 : decode cX7_mix 2 = .ok (.iload_n 1, 1) := dd_all DX7_mix_0_ok 2 rfl
theorem dX7_mix_3 : decode cX7_mix 3 = .ok (.iconst 4, 1) := dd_all DX7_mix_0_ok 3 rfl
theorem dX7_mix_4 : decode cX7_mix 4 = .ok (.if_icmp .ge 25, 3) := dd_all DX7_mix_0_ok 4 rfl
theorem dX7_mix_7 : decode cX7_mix 7 = .ok (.aload_n 0, 1) := dd_all DX7_mix_0_ok 5 rfl
theorem dX7_mix_8 : decode cX7_mix 8 = .ok (.getfield 51, 3) := dd_all DX7_mix_0_ok 6 rfl
theorem dX7_mix_11 : decode cX7_mix 11 = .ok (.iload_n 1, 1) := dd_all DX7_mix_0_ok 7 rfl
theorem dX7_mix_12 : decode cX7_mix 12 = .ok (.aload_n 0, 1) := dd_all DX7_mix_0_ok 8 rfl
theorem dX7_mix_13 : decode cX7_mix 13 = .ok (.getfield 10, 3) := dd_all DX7_mix_0_ok 9 rfl
theorem dX7_mix_16 : decode cX7_mix 16 = .ok (.iload_n 1, 1) := dd_all DX7_mix_0_ok 10 rfl
theorem dX7_mix_17 : decode cX7_mix 17 = .ok (.invokevirtual 189, 3) := dd_all DX7_mix_0_ok 11 rfl
theorem dX7_mix_20 : decode cX7_mix 20 = .ok (.invokestatic 124, 3) := dd_all DX7_mix_0_ok 12 rfl
theorem dX7_mix_23 : decode cX7_mix 23 = .ok (.iinc 1 1, 3) := dd_all DX7_mix_0_ok 13 rfl
theorem dX7_mix_26 : decode cX7_mix 26 = .ok (.goto (-24), 3) := dd_all DX7_mix_0_ok 14 rfl
theorem dX7_mix_29 : decode cX7_mix 29 = .ok (.aload_n 0, 1) := dd_all DX7_mix_0_ok 15 rfl
theorem dX7_mix_30 : decode cX7_mix 30 = .ok (.getfield 47, 3) := dd_all DX7_mix_0_ok 16 rfl
theorem dX7_mix_33 : decode cX7_mix 33 = .ok (.aload_n 0, 1) := dd_all DX7_mix_0_ok 17 rfl
theorem dX7_mix_34 : decode cX7_mix 34 = .ok (.getfield 10, 3) := dd_all DX7_mix_0_ok 18 rfl
theorem dX7_mix_37 : decode cX7_mix 37 = .ok (.getfield 241, 3) := dd_all DX7_mix_0_ok 19 rfl
theorem dX7_mix_40 : decode cX7_mix 40 = .ok (.aload_n 0, 1) := dd_all DX7_mix_0_ok 20 rfl
theorem dX7_mix_41 : decode cX7_mix 41 = .ok (.getfield 51, 3) := dd_all DX7_mix_0_ok 21 rfl
theorem dX7_mix_44 : decode cX7_mix 44 = .ok (.invokevirtual 249, 3) := dd_all DX7_mix_0_ok 22 rfl
theorem dX7_mix_47 : decode cX7_mix 47 = .ok (.ireturn, 1) := dd_all DX7_mix_0_ok 23 rfl
def DX7_isPart_0 : List (Nat × Instr × Nat) := [(0, .iload_n 0, 1), (1, .ifCond .lt 12, 3), (4, .iload_n 0, 1), (5, .iconst 4, 1), (6, .if_icmp .ge 7, 3), (9, .iconst 1, 1), (10, .goto 4, 3), (13, .iconst 0, 1), (14, .ireturn, 1)]
theorem DX7_isPart_0_ok : ∀ q ∈ DX7_isPart_0, decode cX7_isPart q.1 = .ok (q.2.1, q.2.2) := by decide +kernel
theorem dX7_isPart_0 : decode cX7_isPart 0 = .ok (.iload_n 0, 1) := dd_all DX7_isPart_0_ok 0 rfl
theorem dX7_isPart_1 : decode cX7_isPart 1 = .ok (.ifCond .lt 12, 3) := dd_all DX7_isPart_0_ok 1 rfl
theorem dX7_isPart_4 : decode cX7_isPart 4 = .ok (.iload_n 0, 1) := dd_all DX7_isPart_0_ok 2 rfl
theorem dX7_isPart_5 : decode cX7_isPart 5 = .ok (.iconst 4, 1) := dd_all DX7_isPart_0_ok 3 rfl
theorem dX7_isPart_6 : decode cX7_isPart 6 = .ok (.if_icmp .ge 7, 3) := dd_all DX7_isPart_0_ok 4 rfl
theorem dX7_isPart_9 : decode cX7_isPart 9 = .ok (.iconst 1, 1) := dd_all DX7_isPart_0_ok 5 rfl
theorem dX7_isPart_10 : decode cX7_isPart 10 = .ok (.goto 4, 3) := dd_all DX7_isPart_0_ok 6 rfl
theorem dX7_isPart_13 : decode cX7_isPart 13 = .ok (.iconst 0, 1) := dd_all DX7_isPart_0_ok 7 rfl
theorem dX7_isPart_14 : decode cX7_isPart 14 = .ok (.ireturn, 1) := dd_all DX7_isPart_0_ok 8 rfl
def DX7_isPitch_0 : List (Nat × Instr × Nat) := [(0, .iload_n 0, 1), (1, .ifCond .lt 13, 3), (4, .iload_n 0, 1), (5, .bipush 127, 2), (7, .if_icmp .gt 7, 3), (10, .iconst 1, 1), (11, .goto 4, 3), (14, .iconst 0, 1), (15, .ireturn, 1)]
theorem DX7_isPitch_0_ok : ∀ q ∈ DX7_isPitch_0, decode cX7_isPitch q.1 = .ok (q.2.1, q.2.2) := by decide +kernel
theorem dX7_isPitch_0 : decode cX7_isPitch 0 = .ok (.iload_n 0, 1) := dd_all DX7_isPitch_0_ok 0 rfl
theorem dX7_isPitch_1 : decode cX7_isPitch 1 = .ok (.ifCond .lt 13, 3) := dd_all DX7_isPitch_0_ok 1 rfl
theorem dX7_isPitch_4 : decode cX7_isPitch 4 = .ok (.iload_n 0, 1) := dd_all DX7_isPitch_0_ok 2 rfl
theorem dX7_isPitch_5 : decode cX7_isPitch 5 = .ok (.bipush 127, 2) := dd_all DX7_isPitch_0_ok 3 rfl
theorem dX7_isPitch_7 : decode cX7_isPitch 7 = .ok (.if_icmp .gt 7, 3) := dd_all DX7_isPitch_0_ok 4 rfl
theorem dX7_isPitch_10 : decode cX7_isPitch 10 = .ok (.iconst 1, 1) := dd_all DX7_isPitch_0_ok 5 rfl
theorem dX7_isPitch_11 : decode cX7_isPitch 11 = .ok (.goto 4, 3) := dd_all DX7_isPitch_0_ok 6 rfl
theorem dX7_isPitch_14 : decode cX7_isPitch 14 = .ok (.iconst 0, 1) := dd_all DX7_isPitch_0_ok 7 rfl
theorem dX7_isPitch_15 : decode cX7_isPitch 15 = .ok (.ireturn, 1) := dd_all DX7_isPitch_0_ok 8 rfl
def DX7_orNotFound_0 : List (Nat × Instr × Nat) := [(0, .iload_n 0, 1), (1, .iconst (-1), 1), (2, .if_icmp .ne 8, 3), (5, .bipush (-4), 2), (7, .goto 4, 3), (10, .iload_n 0, 1), (11, .ireturn, 1)]
theorem DX7_orNotFound_0_ok : ∀ q ∈ DX7_orNotFound_0, decode cX7_orNotFound q.1 = .ok (q.2.1, q.2.2) := by decide +kernel
theorem dX7_orNotFound_0 : decode cX7_orNotFound 0 = .ok (.iload_n 0, 1) := dd_all DX7_orNotFound_0_ok 0 rfl
theorem dX7_orNotFound_1 : decode cX7_orNotFound 1 = .ok (.iconst (-1), 1) := dd_all DX7_orNotFound_0_ok 1 rfl
theorem dX7_orNotFound_2 : decode cX7_orNotFound 2 = .ok (.if_icmp .ne 8, 3) := dd_all DX7_orNotFound_0_ok 2 rfl
theorem dX7_orNotFound_5 : decode cX7_orNotFound 5 = .ok (.bipush (-4), 2) := dd_all DX7_orNotFound_0_ok 3 rfl
theorem dX7_orNotFound_7 : decode cX7_orNotFound 7 = .ok (.goto 4, 3) := dd_all DX7_orNotFound_0_ok 4 rfl
theorem dX7_orNotFound_10 : decode cX7_orNotFound 10 = .ok (.iload_n 0, 1) := dd_all DX7_orNotFound_0_ok 5 rfl
theorem dX7_orNotFound_11 : decode cX7_orNotFound 11 = .ok (.ireturn, 1) := dd_all DX7_orNotFound_0_ok 6 rfl
def DX7_at_0 : List (Nat × Instr × Nat) := [(0, .iload_n 1, 1), (1, .ifCond .lt 15, 3), (4, .iload_n 1, 1), (5, .aload_n 0, 1), (6, .arraylength, 1), (7, .if_icmp .ge 9, 3), (10, .aload_n 0, 1), (11, .iload_n 1, 1), (12, .iaload, 1), (13, .goto 4, 3), (16, .iconst 0, 1), (17, .ireturn, 1)]
theorem DX7_at_0_ok : ∀ q ∈ DX7_at_0, decode cX7_at q.1 = .ok (q.2.1, q.2.2) := by decide +kernel
theorem dX7_at_0 : decode cX7_at 0 = .ok (.iload_n 1, 1) := dd_all DX7_at_0_ok 0 rfl
theorem dX7_at_1 : decode cX7_at 1 = .ok (.ifCond .lt 15, 3) := dd_all DX7_at_0_ok 1 rfl
theorem dX7_at_4 : decode cX7_at 4 = .ok (.iload_n 1, 1) := dd_all DX7_at_0_ok 2 rfl
theorem dX7_at_5 : decode cX7_at 5 = .ok (.aload_n 0, 1) := dd_all DX7_at_0_ok 3 rfl
theorem dX7_at_6 : decode cX7_at 6 = .ok (.arraylength, 1) := dd_all DX7_at_0_ok 4 rfl
theorem dX7_at_7 : decode cX7_at 7 = .ok (.if_icmp .ge 9, 3) := dd_all DX7_at_0_ok 5 rfl
theorem dX7_at_10 : decode cX7_at 10 = .ok (.aload_n 0, 1) := dd_all DX7_at_0_ok 6 rfl
theorem dX7_at_11 : decode cX7_at 11 = .ok (.iload_n 1, 1) := dd_all DX7_at_0_ok 7 rfl
theorem dX7_at_12 : decode cX7_at 12 = .ok (.iaload, 1) := dd_all DX7_at_0_ok 8 rfl
theorem dX7_at_13 : decode cX7_at 13 = .ok (.goto 4, 3) := dd_all DX7_at_0_ok 9 rfl
theorem dX7_at_16 : decode cX7_at 16 = .ok (.iconst 0, 1) := dd_all DX7_at_0_ok 10 rfl
theorem dX7_at_17 : decode cX7_at 17 = .ok (.ireturn, 1) := dd_all DX7_at_0_ok 11 rfl
def DX7_put_0 : List (Nat × Instr × Nat) := [(0, .iload_n 1, 1), (1, .ifCond .lt 13, 3), (4, .iload_n 1, 1), (5, .aload_n 0, 1), (6, .arraylength, 1), (7, .if_icmp .ge 7, 3), (10, .aload_n 0, 1), (11, .iload_n 1, 1), (12, .iload_n 2, 1), (13, .iastore, 1), (14, .return_, 1)]
theorem DX7_put_0_ok : ∀ q ∈ DX7_put_0, decode cX7_put q.1 = .ok (q.2.1, q.2.2) := by decide +kernel
theorem dX7_put_0 : decode cX7_put 0 = .ok (.iload_n 1, 1) := dd_all DX7_put_0_ok 0 rfl
theorem dX7_put_1 : decode cX7_put 1 = .ok (.ifCond .lt 13, 3) := dd_all DX7_put_0_ok 1 rfl
theorem dX7_put_4 : decode cX7_put 4 = .ok (.iload_n 1, 1) := dd_all DX7_put_0_ok 2 rfl
theorem dX7_put_5 : decode cX7_put 5 = .ok (.aload_n 0, 1) := dd_all DX7_put_0_ok 3 rfl
theorem dX7_put_6 : decode cX7_put 6 = .ok (.arraylength, 1) := dd_all DX7_put_0_ok 4 rfl
theorem dX7_put_7 : decode cX7_put 7 = .ok (.if_icmp .ge 7, 3) := dd_all DX7_put_0_ok 5 rfl
theorem dX7_put_10 : decode cX7_put 10 = .ok (.aload_n 0, 1) := dd_all DX7_put_0_ok 6 rfl
theorem dX7_put_11 : decode cX7_put 11 = .ok (.iload_n 1, 1) := dd_all DX7_put_0_ok 7 rfl
theorem dX7_put_12 : decode cX7_put 12 = .ok (.iload_n 2, 1) := dd_all DX7_put_0_ok 8 rfl
theorem dX7_put_13 : decode cX7_put 13 = .ok (.iastore, 1) := dd_all DX7_put_0_ok 9 rfl
theorem dX7_put_14 : decode cX7_put 14 = .ok (.return_, 1) := dd_all DX7_put_0_ok 10 rfl
def DX7_copyRow_0 : List (Nat × Instr × Nat) := [(0, .iload_n 2, 1), (1, .ifCond .le 23, 3), (4, .iload_n 2, 1), (5, .aload_n 0, 1), (6, .arraylength, 1), (7, .if_icmp .gt 17, 3), (10, .iload_n 2, 1), (11, .aload_n 1, 1), (12, .arraylength, 1), (13, .if_icmp .gt 11, 3), (16, .aload_n 0, 1), (17, .iconst 0, 1), (18, .aload_n 1, 1), (19, .iconst 0, 1), (20, .iload_n 2, 1), (21, .invokestatic 256, 3), (24, .return_, 1)]
theorem DX7_copyRow_0_ok : ∀ q ∈ DX7_copyRow_0, decode cX7_copyRow q.1 = .ok (q.2.1, q.2.2) := by decide +kernel
theorem dX7_copyRow_0 : decode cX7_copyRow 0 = .ok (.iload_n 2, 1) := dd_all DX7_copyRow_0_ok 0 rfl
theorem dX7_copyRow_1 : decode cX7_copyRow 1 = .ok (.ifCond .le 23, 3) := dd_all DX7_copyRow_0_ok 1 rfl
theorem dX7_copyRow_4 : decode cX7_copyRow 4 = .ok (.iload_n 2, 1) := dd_all DX7_copyRow_0_ok 2 rfl
theorem dX7_copyRow_5 : decode cX7_copyRow 5 = .ok (.aload_n 0, 1) := dd_all DX7_copyRow_0_ok 3 rfl
theorem dX7_copyRow_6 : decode cX7_copyRow 6 = .ok (.arraylength, 1) := dd_all DX7_copyRow_0_ok 4 rfl
theorem dX7_copyRow_7 : decode cX7_copyRow 7 = .ok (.if_icmp .gt 17, 3) := dd_all DX7_copyRow_0_ok 5 rfl
theorem dX7_copyRow_10 : decode cX7_copyRow 10 = .ok (.iload_n 2, 1) := dd_all DX7_copyRow_0_ok 6 rfl
theorem dX7_copyRow_11 : decode cX7_copyRow 11 = .ok (.aload_n 1, 1) := dd_all DX7_copyRow_0_ok 7 rfl
theorem dX7_copyRow_12 : decode cX7_copyRow 12 = .ok (.arraylength, 1) := dd_all DX7_copyRow_0_ok 8 rfl
theorem dX7_copyRow_13 : decode cX7_copyRow 13 = .ok (.if_icmp .gt 11, 3) := dd_all DX7_copyRow_0_ok 9 rfl
theorem dX7_copyRow_16 : decode cX7_copyRow 16 = .ok (.aload_n 0, 1) := dd_all DX7_copyRow_0_ok 10 rfl
theorem dX7_copyRow_17 : decode cX7_copyRow 17 = .ok (.iconst 0, 1) := dd_all DX7_copyRow_0_ok 11 rfl
theorem dX7_copyRow_18 : decode cX7_copyRow 18 = .ok (.aload_n 1, 1) := dd_all DX7_copyRow_0_ok 12 rfl
theorem dX7_copyRow_19 : decode cX7_copyRow 19 = .ok (.iconst 0, 1) := dd_all DX7_copyRow_0_ok 13 rfl
theorem dX7_copyRow_20 : decode cX7_copyRow 20 = .ok (.iload_n 2, 1) := dd_all DX7_copyRow_0_ok 14 rfl
theorem dX7_copyRow_21 : decode cX7_copyRow 21 = .ok (.invokestatic 256, 3) := dd_all DX7_copyRow_0_ok 15 rfl
theorem dX7_copyRow_24 : decode cX7_copyRow 24 = .ok (.return_, 1) := dd_all DX7_copyRow_0_ok 16 rfl
def DX7_divideUp_0 : List (Nat × Instr × Nat) := [(0, .iload_n 1, 1), (1, .ifCond .le 13, 3), (4, .iload_n 0, 1), (5, .iload_n 1, 1), (6, .iadd, 1), (7, .iconst 1, 1), (8, .isub, 1), (9, .iload_n 1, 1), (10, .idiv, 1), (11, .goto 4, 3), (14, .iconst 0, 1), (15, .ireturn, 1)]
theorem DX7_divideUp_0_ok : ∀ q ∈ DX7_divideUp_0, decode cX7_divideUp q.1 = .ok (q.2.1, q.2.2) := by decide +kernel
theorem dX7_divideUp_0 : decode cX7_divideUp 0 = .ok (.iload_n 1, 1) := dd_all DX7_divideUp_0_ok 0 rfl
theorem dX7_divideUp_1 : decode cX7_divideUp 1 = .ok (.ifCond .le 13, 3) := dd_all DX7_divideUp_0_ok 1 rfl
theorem dX7_divideUp_4 : decode cX7_divideUp 4 = .ok (.iload_n 0, 1) := dd_all DX7_divideUp_0_ok 2 rfl
theorem dX7_divideUp_5 : decode cX7_divideUp 5 = .ok (.iload_n 1, 1) := dd_all DX7_divideUp_0_ok 3 rfl
theorem dX7_divideUp_6 : decode cX7_divideUp 6 = .ok (.iadd, 1) := dd_all DX7_divideUp_0_ok 4 rfl
theorem dX7_divideUp_7 : decode cX7_divideUp 7 = .ok (.iconst 1, 1) := dd_all DX7_divideUp_0_ok 5 rfl
theorem dX7_divideUp_8 : decode cX7_divideUp 8 = .ok (.isub, 1) := dd_all DX7_divideUp_0_ok 6 rfl
theorem dX7_divideUp_9 : decode cX7_divideUp 9 = .ok (.iload_n 1, 1) := dd_all DX7_divideUp_0_ok 7 rfl
theorem dX7_divideUp_10 : decode cX7_divideUp 10 = .ok (.idiv, 1) := dd_all DX7_divideUp_0_ok 8 rfl
theorem dX7_divideUp_11 : decode cX7_divideUp 11 = .ok (.goto 4, 3) := dd_all DX7_divideUp_0_ok 9 rfl
theorem dX7_divideUp_14 : decode cX7_divideUp 14 = .ok (.iconst 0, 1) := dd_all DX7_divideUp_0_ok 10 rfl
theorem dX7_divideUp_15 : decode cX7_divideUp 15 = .ok (.ireturn, 1) := dd_all DX7_divideUp_0_ok 11 rfl
