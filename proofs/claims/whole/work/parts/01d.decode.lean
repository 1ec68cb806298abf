theorem dd_all {b : ByteArray} {l : List (Nat × Instr × Nat)} (h : ∀ q ∈ l, decode b q.1 = .ok (q.2.1, q.2.2)) (k : Nat) {pc : Nat} {i : Instr} {n : Nat} (hk : l[k]? = some (pc, i, n)) : decode b pc = .ok (i, n) := h (pc, i, n) (List.mem_of_getElem? hk)
def DJ0_length_8abf5_0 : List (Nat × Instr × Nat) := [(0, .aload_n 0, 1), (1, .getfield 9, 3), (4, .arraylength, 1), (5, .aload_n 0, 1), (6, .invokevirtual 335, 3), (9, .ishr, 1), (10, .ireturn, 1)]
theorem DJ0_length_8abf5_0_ok : ∀ q ∈ DJ0_length_8abf5_0, decode cJ0_length_8abf5 q.1 = .ok (q.2.1, q.2.2) := by decide +kernel
theorem dJ0_length_8abf5_0 : decode cJ0_length_8abf5 0 = .ok (.aload_n 0, 1) := dd_all DJ0_length_8abf5_0_ok 0 rfl
theorem dJ0_length_8abf5_1 : decode cJ0_length_8abf5 1 = .ok (.getfield 9, 3) := dd_all DJ0_length_8abf5_0_ok 1 rfl
theorem dJ0_length_8abf5_4 : decode cJ0_length_8abf5 4 = .ok (.arraylength, 1) := dd_all DJ0_length_8abf5_0_ok 2 rfl
theorem dJ0_length_8abf5_5 : decode cJ0_length_8abf5 5 = .ok (.aload_n 0, 1) := dd_all DJ0_length_8abf5_0_ok 3 rfl
theorem dJ0_length_8abf5_6 : decode cJ0_length_8abf5 6 = .ok (.invokevirtual 335, 3) := dd_all DJ0_length_8abf5_0_ok 4 rfl
theorem dJ0_length_8abf5_9 : decode cJ0_length_8abf5 9 = .ok (.ishr, 1) := dd_all DJ0_length_8abf5_0_ok 5 rfl
theorem dJ0_length_8abf5_10 : decode cJ0_length_8abf5 10 = .ok (.ireturn, 1) := dd_all DJ0_length_8abf5_0_ok 6 rfl
def DJ0_charAt_5068e_0 : List (Nat × Instr × Nat) := [(0, .aload_n 0, 1), (1, .invokevirtual 492, 3), (4, .ifCond .eq 12, 3), (7, .aload_n 0, 1), (8, .getfield 9, 3), (11, .iload_n 1, 1), (12, .invokestatic 495, 3), (15, .ireturn, 1), (16, .aload_n 0, 1), (17, .getfield 9, 3), (20, .iload_n 1, 1), (21, .invokestatic 498, 3), (24, .ireturn, 1)]
theorem DJ0_charAt_5068e_0_ok : ∀ q ∈ DJ0_charAt_5068e_0, decode cJ0_charAt_5068e q.1 = .ok (q.2.1, q.2.2) := by decide +kernel
theorem dJ0_charAt_5068e_0 : decode cJ0_charAt_5068e 0 = .ok (.aload_n 0, 1) := dd_all DJ0_charAt_5068e_0_ok 0 rfl
theorem dJ0_charAt_5068e_1 : decode cJ0_charAt_5068e 1 = .ok (.invokevirtual 492, 3) := dd_all DJ0_charAt_5068e_0_ok 1 rfl
theorem dJ0_charAt_5068e_4 : decode cJ0_charAt_5068e 4 = .ok (.ifCond .eq 12, 3) := dd_all DJ0_charAt_5068e_0_ok 2 rfl
theorem dJ0_charAt_5068e_7 : decode cJ0_charAt_5068e 7 = .ok (.aload_n 0, 1) := dd_all DJ0_charAt_5068e_0_ok 3 rfl
theorem dJ0_charAt_5068e_8 : decode cJ0_charAt_5068e 8 = .ok (.getfield 9, 3) := dd_all DJ0_charAt_5068e_0_ok 4 rfl
theorem dJ0_charAt_5068e_11 : decode cJ0_charAt_5068e 11 = .ok (.iload_n 1, 1) := dd_all DJ0_charAt_5068e_0_ok 5 rfl
theorem dJ0_charAt_5068e_12 : decode cJ0_charAt_5068e 12 = .ok (.invokestatic 495, 3) := dd_all DJ0_charAt_5068e_0_ok 6 rfl
theorem dJ0_charAt_5068e_15 : decode cJ0_charAt_5068e 15 = .ok (.ireturn, 1) := dd_all DJ0_charAt_5068e_0_ok 7 rfl
theorem dJ0_charAt_5068e_16 : decode cJ0_charAt_5068e 16 = .ok (.aload_n 0, 1) := dd_all DJ0_charAt_5068e_0_ok 8 rfl
theorem dJ0_charAt_5068e_17 : decode cJ0_charAt_5068e 17 = .ok (.getfield 9, 3) := dd_all DJ0_charAt_5068e_0_ok 9 rfl
theorem dJ0_charAt_5068e_20 : decode cJ0_charAt_5068e 20 = .ok (.iload_n 1, 1) := dd_all DJ0_charAt_5068e_0_ok 10 rfl
theorem dJ0_charAt_5068e_21 : decode cJ0_charAt_5068e 21 = .ok (.invokestatic 498, 3) := dd_all DJ0_charAt_5068e_0_ok 11 rfl
theorem dJ0_charAt_5068e_24 : decode cJ0_charAt_5068e 24 = .ok (.ireturn, 1) := dd_all DJ0_charAt_5068e_0_ok 12 rfl
def DJ0_indexOf_0f7a4_0 : List (Nat × Instr × Nat) := [(0, .aload_n 0, 1), (1, .iload_n 1, 1), (2, .iconst 0, 1), (3, .invokevirtual 633, 3), (6, .ireturn, 1)]
theorem DJ0_indexOf_0f7a4_0_ok : ∀ q ∈ DJ0_indexOf_0f7a4_0, decode cJ0_indexOf_0f7a4 q.1 = .ok (q.2.1, q.2.2) := by decide +kernel
theorem dJ0_indexOf_0f7a4_0 : decode cJ0_indexOf_0f7a4 0 = .ok (.aload_n 0, 1) := dd_all DJ0_indexOf_0f7a4_0_ok 0 rfl
theorem dJ0_indexOf_0f7a4_1 : decode cJ0_indexOf_0f7a4 1 = .ok (.iload_n 1, 1) := dd_all DJ0_indexOf_0f7a4_0_ok 1 rfl
theorem dJ0_indexOf_0f7a4_2 : decode cJ0_indexOf_0f7a4 2 = .ok (.iconst 0, 1) := dd_all DJ0_indexOf_0f7a4_0_ok 2 rfl
theorem dJ0_indexOf_0f7a4_3 : decode cJ0_indexOf_0f7a4 3 = .ok (.invokevirtual 633, 3) := dd_all DJ0_indexOf_0f7a4_0_ok 3 rfl
theorem dJ0_indexOf_0f7a4_6 : decode cJ0_indexOf_0f7a4 6 = .ok (.ireturn, 1) := dd_all DJ0_indexOf_0f7a4_0_ok 4 rfl
def DJ0_indexOf_7cf53_0 : List (Nat × Instr × Nat) := [(0, .aload_n 0, 1), (1, .invokevirtual 492, 3), (4, .ifCond .eq 19, 3), (7, .aload_n 0, 1), (8, .getfield 9, 3), (11, .iload_n 1, 1), (12, .iload_n 2, 1), (13, .aload_n 0, 1), (14, .invokevirtual 505, 3), (17, .invokestatic 637, 3), (20, .goto 16, 3), (23, .aload_n 0, 1), (24, .getfield 9, 3), (27, .iload_n 1, 1), (28, .iload_n 2, 1), (29, .aload_n 0, 1), (30, .invokevirtual 505, 3), (33, .invokestatic 640, 3), (36, .ireturn, 1)]
theorem DJ0_indexOf_7cf53_0_ok : ∀ q ∈ DJ0_indexOf_7cf53_0, decode cJ0_indexOf_7cf53 q.1 = .ok (q.2.1, q.2.2) := by decide +kernel
theorem dJ0_indexOf_7cf53_0 : decode cJ0_indexOf_7cf53 0 = .ok (.aload_n 0, 1) := dd_all DJ0_indexOf_7cf53_0_ok 0 rfl
theorem dJ0_indexOf_7cf53_1 : decode cJ0_indexOf_7cf53 1 = .ok (.invokevirtual 492, 3) := dd_all DJ0_indexOf_7cf53_0_ok 1 rfl
theorem dJ0_indexOf_7cf53_4 : decode cJ0_indexOf_7cf53 4 = .ok (.ifCond .eq 19, 3) := dd_all DJ0_indexOf_7cf53_0_ok 2 rfl
theorem dJ0_indexOf_7cf53_7 : decode cJ0_indexOf_7cf53 7 = .ok (.aload_n 0, 1) := dd_all DJ0_indexOf_7cf53_0_ok 3 rfl
theorem dJ0_indexOf_7cf53_8 : decode cJ0_indexOf_7cf53 8 = .ok (.getfield 9, 3) := dd_all DJ0_indexOf_7cf53_0_ok 4 rfl
theorem dJ0_indexOf_7cf53_11 : decode cJ0_indexOf_7cf53 11 = .ok (.iload_n 1, 1) := dd_all DJ0_indexOf_7cf53_0_ok 5 rfl
theorem dJ0_indexOf_7cf53_12 : decode cJ0_indexOf_7cf53 12 = .ok (.iload_n 2, 1) := dd_all DJ0_indexOf_7cf53_0_ok 6 rfl
theorem dJ0_indexOf_7cf53_13 : decode cJ0_indexOf_7cf53 13 = .ok (.aload_n 0, 1) := dd_all DJ0_indexOf_7cf53_0_ok 7 rfl
theorem dJ0_indexOf_7cf53_14 : decode cJ0_indexOf_7cf53 14 = .ok (.invokevirtual 505, 3) := dd_all DJ0_indexOf_7cf53_0_ok 8 rfl
theorem dJ0_indexOf_7cf53_17 : decode cJ0_indexOf_7cf53 17 = .ok (.invokestatic 637, 3) := dd_all DJ0_indexOf_7cf53_0_ok 9 rfl
theorem dJ0_indexOf_7cf53_20 : decode cJ0_indexOf_7cf53 20 = .ok (.goto 16, 3) := dd_all DJ0_indexOf_7cf53_0_ok 10 rfl
theorem dJ0_indexOf_7cf53_23 : decode cJ0_indexOf_7cf53 23 = .ok (.aload_n 0, 1) := dd_all DJ0_indexOf_7cf53_0_ok 11 rfl
theorem dJ0_indexOf_7cf53_24 : decode cJ0_indexOf_7cf53 24 = .ok (.getfield 9, 3) := dd_all DJ0_indexOf_7cf53_0_ok 12 rfl
theorem dJ0_indexOf_7cf53_27 : decode cJ0_indexOf_7cf53 27 = .ok (.iload_n 1, 1) := dd_all DJ0_indexOf_7cf53_0_ok 13 rfl
theorem dJ0_indexOf_7cf53_28 : decode cJ0_indexOf_7cf53 28 = .ok (.iload_n 2, 1) := dd_all DJ0_indexOf_7cf53_0_ok 14 rfl
theorem dJ0_indexOf_7cf53_29 : decode cJ0_indexOf_7cf53 29 = .ok (.aload_n 0, 1) := dd_all DJ0_indexOf_7cf53_0_ok 15 rfl
theorem dJ0_indexOf_7cf53_30 : decode cJ0_indexOf_7cf53 30 = .ok (.invokevirtual 505, 3) := dd_all DJ0_indexOf_7cf53_0_ok 16 rfl
theorem dJ0_indexOf_7cf53_33 : decode cJ0_indexOf_7cf53 33 = .ok (.invokestatic 640, 3) := dd_all DJ0_indexOf_7cf53_0_ok 17 rfl
theorem dJ0_indexOf_7cf53_36 : decode cJ0_indexOf_7cf53 36 = .ok (.ireturn, 1) := dd_all DJ0_indexOf_7cf53_0_ok 18 rfl
def DJ0_coder_7d493_0 : List (Nat × Instr × Nat) := [(0, .getstatic 38, 3), (3, .ifCond .eq 10, 3), (6, .aload_n 0, 1), (7, .getfield 15, 3), (10, .goto 4, 3), (13, .iconst 1, 1), (14, .ireturn, 1)]
theorem DJ0_coder_7d493_0_ok : ∀ q ∈ DJ0_coder_7d493_0, decode cJ0_coder_7d493 q.1 = .ok (q.2.1, q.2.2) := by decide +kernel
theorem dJ0_coder_7d493_0 : decode cJ0_coder_7d493 0 = .ok (.getstatic 38, 3) := dd_all DJ0_coder_7d493_0_ok 0 rfl
theorem dJ0_coder_7d493_3 : decode cJ0_coder_7d493 3 = .ok (.ifCond .eq 10, 3) := dd_all DJ0_coder_7d493_0_ok 1 rfl
theorem dJ0_coder_7d493_6 : decode cJ0_coder_7d493 6 = .ok (.aload_n 0, 1) := dd_all DJ0_coder_7d493_0_ok 2 rfl
theorem dJ0_coder_7d493_7 : decode cJ0_coder_7d493 7 = .ok (.getfield 15, 3) := dd_all DJ0_coder_7d493_0_ok 3 rfl
theorem dJ0_coder_7d493_10 : decode cJ0_coder_7d493 10 = .ok (.goto 4, 3) := dd_all DJ0_coder_7d493_0_ok 4 rfl
theorem dJ0_coder_7d493_13 : decode cJ0_coder_7d493 13 = .ok (.iconst 1, 1) := dd_all DJ0_coder_7d493_0_ok 5 rfl
theorem dJ0_coder_7d493_14 : decode cJ0_coder_7d493 14 = .ok (.ireturn, 1) := dd_all DJ0_coder_7d493_0_ok 6 rfl
def DJ0_isLatin1_aae02_0 : List (Nat × Instr × Nat) := [(0, .getstatic 38, 3), (3, .ifCond .eq 14, 3), (6, .aload_n 0, 1), (7, .getfield 15, 3), (10, .ifCond .ne 7, 3), (13, .iconst 1, 1), (14, .goto 4, 3), (17, .iconst 0, 1), (18, .ireturn, 1)]
theorem DJ0_isLatin1_aae02_0_ok : ∀ q ∈ DJ0_isLatin1_aae02_0, decode cJ0_isLatin1_aae02 q.1 = .ok (q.2.1, q.2.2) := by decide +kernel
theorem dJ0_isLatin1_aae02_0 : decode cJ0_isLatin1_aae02 0 = .ok (.getstatic 38, 3) := dd_all DJ0_isLatin1_aae02_0_ok 0 rfl
theorem dJ0_isLatin1_aae02_3 : decode cJ0_isLatin1_aae02 3 = .ok (.ifCond .eq 14, 3) := dd_all DJ0_isLatin1_aae02_0_ok 1 rfl
theorem dJ0_isLatin1_aae02_6 : decode cJ0_isLatin1_aae02 6 = .ok (.aload_n 0, 1) := dd_all DJ0_isLatin1_aae02_0_ok 2 rfl
theorem dJ0_isLatin1_aae02_7 : decode cJ0_isLatin1_aae02 7 = .ok (.getfield 15, 3) := dd_all DJ0_isLatin1_aae02_0_ok 3 rfl
theorem dJ0_isLatin1_aae02_10 : decode cJ0_isLatin1_aae02 10 = .ok (.ifCond .ne 7, 3) := dd_all DJ0_isLatin1_aae02_0_ok 4 rfl
theorem dJ0_isLatin1_aae02_13 : decode cJ0_isLatin1_aae02 13 = .ok (.iconst 1, 1) := dd_all DJ0_isLatin1_aae02_0_ok 5 rfl
theorem dJ0_isLatin1_aae02_14 : decode cJ0_isLatin1_aae02 14 = .ok (.goto 4, 3) := dd_all DJ0_isLatin1_aae02_0_ok 6 rfl
theorem dJ0_isLatin1_aae02_17 : decode cJ0_isLatin1_aae02 17 = .ok (.iconst 0, 1) := dd_all DJ0_isLatin1_aae02_0_ok 7 rfl
theorem dJ0_isLatin1_aae02_18 : decode cJ0_isLatin1_aae02 18 = .ok (.ireturn, 1) := dd_all DJ0_isLatin1_aae02_0_ok 8 rfl
def DJ0_checkIndex_df160_0 : List (Nat × Instr × Nat) := [(0, .iload_n 0, 1), (1, .iload_n 1, 1), (2, .getstatic 1053, 3), (5, .invokestatic 1059, 3), (8, .pop, 1), (9, .return_, 1)]
theorem DJ0_checkIndex_df160_0_ok : ∀ q ∈ DJ0_checkIndex_df160_0, decode cJ0_checkIndex_df160 q.1 = .ok (q.2.1, q.2.2) := by decide +kernel
theorem dJ0_checkIndex_df160_0 : decode cJ0_checkIndex_df160 0 = .ok (.iload_n 0, 1) := dd_all DJ0_checkIndex_df160_0_ok 0 rfl
theorem dJ0_checkIndex_df160_1 : decode cJ0_checkIndex_df160 1 = .ok (.iload_n 1, 1) := dd_all DJ0_checkIndex_df160_0_ok 1 rfl
theorem dJ0_checkIndex_df160_2 : decode cJ0_checkIndex_df160 2 = .ok (.getstatic 1053, 3) := dd_all DJ0_checkIndex_df160_0_ok 2 rfl
theorem dJ0_checkIndex_df160_5 : decode cJ0_checkIndex_df160 5 = .ok (.invokestatic 1059, 3) := dd_all DJ0_checkIndex_df160_0_ok 3 rfl
theorem dJ0_checkIndex_df160_8 : decode cJ0_checkIndex_df160 8 = .ok (.pop, 1) := dd_all DJ0_checkIndex_df160_0_ok 4 rfl
theorem dJ0_checkIndex_df160_9 : decode cJ0_checkIndex_df160 9 = .ok (.return_, 1) := dd_all DJ0_checkIndex_df160_0_ok 5 rfl
def DJ0_checkBoundsBeginEnd_23922_0 : List (Nat × Instr × Nat) := [(0, .iload_n 0, 1), (1, .iload_n 1, 1), (2, .iload_n 2, 1), (3, .getstatic 1053, 3), (6, .invokestatic 1062, 3), (9, .pop, 1), (10, .return_, 1)]
theorem DJ0_checkBoundsBeginEnd_23922_0_ok : ∀ q ∈ DJ0_checkBoundsBeginEnd_23922_0, decode cJ0_checkBoundsBeginEnd_23922 q.1 = .ok (q.2.1, q.2.2) := by decide +kernel
theorem dJ0_checkBoundsBeginEnd_23922_0 : decode cJ0_checkBoundsBeginEnd_23922 0 = .ok (.iload_n 0, 1) := dd_all DJ0_checkBoundsBeginEnd_23922_0_ok 0 rfl
theorem dJ0_checkBoundsBeginEnd_23922_1 : decode cJ0_checkBoundsBeginEnd_23922 1 = .ok (.iload_n 1, 1) := dd_all DJ0_checkBoundsBeginEnd_23922_0_ok 1 rfl
theorem dJ0_checkBoundsBeginEnd_23922_2 : decode cJ0_checkBoundsBeginEnd_23922 2 = .ok (.iload_n 2, 1) := dd_all DJ0_checkBoundsBeginEnd_23922_0_ok 2 rfl
theorem dJ0_checkBoundsBeginEnd_23922_3 : decode cJ0_checkBoundsBeginEnd_23922 3 = .ok (.getstatic 1053, 3) := dd_all DJ0_checkBoundsBeginEnd_23922_0_ok 3 rfl
theorem dJ0_checkBoundsBeginEnd_23922_6 : decode cJ0_checkBoundsBeginEnd_23922 6 = .ok (.invokestatic 1062, 3) := dd_all DJ0_checkBoundsBeginEnd_23922_0_ok 4 rfl
theorem dJ0_checkBoundsBeginEnd_23922_9 : decode cJ0_checkBoundsBeginEnd_23922 9 = .ok (.pop, 1) := dd_all DJ0_checkBoundsBeginEnd_23922_0_ok 5 rfl
theorem dJ0_checkBoundsBeginEnd_23922_10 : decode cJ0_checkBoundsBeginEnd_23922 10 = .ok (.return_, 1) := dd_all DJ0_checkBoundsBeginEnd_23922_0_ok 6 rfl
def DJ1_charAt_3b067_0 : List (Nat × Instr × Nat) := [(0, .iload_n 1, 1), (1, .aload_n 0, 1), (2, .arraylength, 1), (3, .invokestatic 9, 3), (6, .aload_n 0, 1), (7, .iload_n 1, 1), (8, .baload, 1), (9, .sipush 255, 3), (12, .iand, 1), (13, .i2c, 1), (14, .ireturn, 1)]
theorem DJ1_charAt_3b067_0_ok : ∀ q ∈ DJ1_charAt_3b067_0, decode cJ1_charAt_3b067 q.1 = .ok (q.2.1, q.2.2) := by decide +kernel
theorem dJ1_charAt_3b067_0 : decode cJ1_charAt_3b067 0 = .ok (.iload_n 1, 1) := dd_all DJ1_charAt_3b067_0_ok 0 rfl
theorem dJ1_charAt_3b067_1 : decode cJ1_charAt_3b067 1 = .ok (.aload_n 0, 1) := dd_all DJ1_charAt_3b067_0_ok 1 rfl
theorem dJ1_charAt_3b067_2 : decode cJ1_charAt_3b067 2 = .ok (.arraylength, 1) := dd_all DJ1_charAt_3b067_0_ok 2 rfl
theorem dJ1_charAt_3b067_3 : decode cJ1_charAt_3b067 3 = .ok (.invokestatic 9, 3) := dd_all DJ1_charAt_3b067_0_ok 3 rfl
theorem dJ1_charAt_3b067_6 : decode cJ1_charAt_3b067 6 = .ok (.aload_n 0, 1) := dd_all DJ1_charAt_3b067_0_ok 4 rfl
theorem dJ1_charAt_3b067_7 : decode cJ1_charAt_3b067 7 = .ok (.iload_n 1, 1) := dd_all DJ1_charAt_3b067_0_ok 5 rfl
theorem dJ1_charAt_3b067_8 : decode cJ1_charAt_3b067 8 = .ok (.baload, 1) := dd_all DJ1_charAt_3b067_0_ok 6 rfl
theorem dJ1_charAt_3b067_9 : decode cJ1_charAt_3b067 9 = .ok (.sipush 255, 3) := dd_all DJ1_charAt_3b067_0_ok 7 rfl
theorem dJ1_charAt_3b067_12 : decode cJ1_charAt_3b067 12 = .ok (.iand, 1) := dd_all DJ1_charAt_3b067_0_ok 8 rfl
theorem dJ1_charAt_3b067_13 : decode cJ1_charAt_3b067 13 = .ok (.i2c, 1) := dd_all DJ1_charAt_3b067_0_ok 9 rfl
theorem dJ1_charAt_3b067_14 : decode cJ1_charAt_3b067 14 = .ok (.ireturn, 1) := dd_all DJ1_charAt_3b067_0_ok 10 rfl
def DJ1_canEncode_9a6ad_0 : List (Nat × Instr × Nat) := [(0, .iload_n 0, 1), (1, .ifCond .lt 14, 3), (4, .iload_n 0, 1), (5, .sipush 255, 3), (8, .if_icmp .gt 7, 3), (11, .iconst 1, 1), (12, .goto 4, 3), (15, .iconst 0, 1), (16, .ireturn, 1)]
theorem DJ1_canEncode_9a6ad_0_ok : ∀ q ∈ DJ1_canEncode_9a6ad_0, decode cJ1_canEncode_9a6ad q.1 = .ok (q.2.1, q.2.2) := by decide +kernel
theorem dJ1_canEncode_9a6ad_0 : decode cJ1_canEncode_9a6ad 0 = .ok (.iload_n 0, 1) := dd_all DJ1_canEncode_9a6ad_0_ok 0 rfl
theorem dJ1_canEncode_9a6ad_1 : decode cJ1_canEncode_9a6ad 1 = .ok (.ifCond .lt 14, 3) := dd_all DJ1_canEncode_9a6ad_0_ok 1 rfl
theorem dJ1_canEncode_9a6ad_4 : decode cJ1_canEncode_9a6ad 4 = .ok (.iload_n 0, 1) := dd_all DJ1_canEncode_9a6ad_0_ok 2 rfl
theorem dJ1_canEncode_9a6ad_5 : decode cJ1_canEncode_9a6ad 5 = .ok (.sipush 255, 3) := dd_all DJ1_canEncode_9a6ad_0_ok 3 rfl
theorem dJ1_canEncode_9a6ad_8 : decode cJ1_canEncode_9a6ad 8 = .ok (.if_icmp .gt 7, 3) := dd_all DJ1_canEncode_9a6ad_0_ok 4 rfl
theorem dJ1_canEncode_9a6ad_11 : decode cJ1_canEncode_9a6ad 11 = .ok (.iconst 1, 1) := dd_all DJ1_canEncode_9a6ad_0_ok 5 rfl
theorem dJ1_canEncode_9a6ad_12 : decode cJ1_canEncode_9a6ad 12 = .ok (.goto 4, 3) := dd_all DJ1_canEncode_9a6ad_0_ok 6 rfl
theorem dJ1_canEncode_9a6ad_15 : decode cJ1_canEncode_9a6ad 15 = .ok (.iconst 0, 1) := dd_all DJ1_canEncode_9a6ad_0_ok 7 rfl
theorem dJ1_canEncode_9a6ad_16 : decode cJ1_canEncode_9a6ad 16 = .ok (.ireturn, 1) := dd_all DJ1_canEncode_9a6ad_0_ok 8 rfl
def DJ1_indexOf_4cfef_0 : List (Nat × Instr × Nat) := [(0, .iload_n 1, 1), (1, .invokestatic 88, 3), (4, .ifCond .ne 5, 3), (7, .iconst (-1), 1), (8, .ireturn, 1), (9, .iload_n 2, 1), (10, .iconst 0, 1), (11, .invokestatic 92, 3), (14, .istore_n 2, 1), (15, .iload_n 3, 1), (16, .aload_n 0, 1), (17, .arraylength, 1), (18, .invokestatic 38, 3), (21, .istore_n 3, 1), (22, .iload_n 2, 1), (23, .iload_n 3, 1), (24, .if_icmp .lt 5, 3), (27, .iconst (-1), 1), (28, .ireturn, 1), (29, .aload_n 0, 1), (30, .iload_n 1, 1), (31, .iload_n 2, 1), (32, .iload_n 3, 1), (33, .invokestatic 95, 3), (36, .ireturn, 1)]
theorem DJ1_indexOf_4cfef_0_ok : ∀ q ∈ DJ1_indexOf_4cfef_0, decode cJ1_indexOf_4cfef q.1 = .ok (q.2.1, q.2.2) := by decide +kernel
theorem dJ1_indexOf_4cfef_0 : decode cJ1_indexOf_4cfef 0 = .ok (.iload_n 1, 1) := dd_all DJ1_indexOf_4cfef_0_ok 0 rfl
theorem dJ1_indexOf_4cfef_1 : decode cJ1_indexOf_4cfef 1 = .ok (.invokestatic 88, 3) := dd_all DJ1_indexOf_4cfef_0_ok 1 rfl
theorem dJ1_indexOf_4cfef_4 : decode cJ1_indexOf_4cfef 4 = .ok (.ifCond .ne 5, 3) := dd_all DJ1_indexOf_4cfef_0_ok 2 rfl
theorem dJ1_indexOf_4cfef_7 : decode cJ1_indexOf_4cfef 7 = .ok (.iconst (-1), 1) := dd_all DJ1_indexOf_4cfef_0_ok 3 rfl
theorem dJ1_indexOf_4cfef_8 : decode cJ1_indexOf_4cfef 8 = .ok (.ireturn, 1) := dd_all DJ1_indexOf_4cfef_0_ok 4 rfl
theorem dJ1_indexOf_4cfef_9 : decode cJ1_indexOf_4cfef 9 = .ok (.iload_n 2, 1) := dd_all DJ1_indexOf_4cfef_0_ok 5 rfl
theorem dJ1_indexOf_4cfef_10 : decode cJ1_indexOf_4cfef 10 = .ok (.iconst 0, 1) := dd_all DJ1_indexOf_4cfef_0_ok 6 rfl
theorem dJ1_indexOf_4cfef_11 : decode cJ1_indexOf_4cfef 11 = .ok (.invokestatic 92, 3) := dd_all DJ1_indexOf_4cfef_0_ok 7 rfl
theorem dJ1_indexOf_4cfef_14 : decode cJ1_indexOf_4cfef 14 = .ok (.istore_n 2, 1) := dd_all DJ1_indexOf_4cfef_0_ok 8 rfl
theorem dJ1_indexOf_4cfef_15 : decode cJ1_indexOf_4cfef 15 = .ok (.iload_n 3, 1) := dd_all DJ1_indexOf_4cfef_0_ok 9 rfl
theorem dJ1_indexOf_4cfef_16 : decode cJ1_indexOf_4cfef 16 = .ok (.aload_n 0, 1) := dd_all DJ1_indexOf_4cfef_0_ok 10 rfl
theorem dJ1_indexOf_4cfef_17 : decode cJ1_indexOf_4cfef 17 = .ok (.arraylength, 1) := dd_all DJ1_indexOf_4cfef_0_ok 11 rfl
theorem dJ1_indexOf_4cfef_18 : decode cJ1_indexOf_4cfef 18 = .ok (.invokestatic 38, 3) := dd_all DJ1_indexOf_4cfef_0_ok 12 rfl
theorem dJ1_indexOf_4cfef_21 : decode cJ1_indexOf_4cfef 21 = .ok (.istore_n 3, 1) := dd_all DJ1_indexOf_4cfef_0_ok 13 rfl
theorem dJ1_indexOf_4cfef_22 : decode cJ1_indexOf_4cfef 22 = .ok (.iload_n 2, 1) := dd_all DJ1_indexOf_4cfef_0_ok 14 rfl
theorem dJ1_indexOf_4cfef_23 : decode cJ1_indexOf_4cfef 23 = .ok (.iload_n 3, 1) := dd_all DJ1_indexOf_4cfef_0_ok 15 rfl
theorem dJ1_indexOf_4cfef_24 : decode cJ1_indexOf_4cfef 24 = .ok (.if_icmp .lt 5, 3) := dd_all DJ1_indexOf_4cfef_0_ok 16 rfl
theorem dJ1_indexOf_4cfef_27 : decode cJ1_indexOf_4cfef 27 = .ok (.iconst (-1), 1) := dd_all DJ1_indexOf_4cfef_0_ok 17 rfl
theorem dJ1_indexOf_4cfef_28 : decode cJ1_indexOf_4cfef 28 = .ok (.ireturn, 1) := dd_all DJ1_indexOf_4cfef_0_ok 18 rfl
theorem dJ1_indexOf_4cfef_29 : decode cJ1_indexOf_4cfef 29 = .ok (.aload_n 0, 1) := dd_all DJ1_indexOf_4cfef_0_ok 19 rfl
theorem dJ1_indexOf_4cfef_30 : decode cJ1_indexOf_4cfef 30 = .ok (.iload_n 1, 1) := dd_all DJ1_indexOf_4cfef_0_ok 20 rfl
theorem dJ1_indexOf_4cfef_31 : decode cJ1_indexOf_4cfef 31 = .ok (.iload_n 2, 1) := dd_all DJ1_indexOf_4cfef_0_ok 21 rfl
theorem dJ1_indexOf_4cfef_32 : decode cJ1_indexOf_4cfef 32 = .ok (.iload_n 3, 1) := dd_all DJ1_indexOf_4cfef_0_ok 22 rfl
theorem dJ1_indexOf_4cfef_33 : decode cJ1_indexOf_4cfef 33 = .ok (.invokestatic 95, 3) := dd_all DJ1_indexOf_4cfef_0_ok 23 rfl
theorem dJ1_indexOf_4cfef_36 : decode cJ1_indexOf_4cfef 36 = .ok (.ireturn, 1) := dd_all DJ1_indexOf_4cfef_0_ok 24 rfl
def DJ1_indexOfChar_4cfef_0 : List (Nat × Instr × Nat) := [(0, .iload_n 1, 1), (1, .i2b, 1), (2, .istore 4, 2), (4, .iload_n 2, 1), (5, .istore 5, 2), (7, .iload 5, 2), (9, .iload_n 3, 1), (10, .if_icmp .ge 21, 3), (13, .aload_n 0, 1), (14, .iload 5, 2), (16, .baload, 1), (17, .iload 4, 2), (19, .if_icmp .ne 6, 3), (22, .iload 5, 2), (24, .ireturn, 1), (25, .iinc 5 1, 3), (28, .goto (-21), 3), (31, .iconst (-1), 1), (32, .ireturn, 1)]
theorem DJ1_indexOfChar_4cfef_0_ok : ∀ q ∈ DJ1_indexOfChar_4cfef_0, decode cJ1_indexOfChar_4cfef q.1 = .ok (q.2.1, q.2.2) := by decide +kernel
theorem dJ1_indexOfChar_4cfef_0 : decode cJ1_indexOfChar_4cfef 0 = .ok (.iload_n 1, 1) := dd_all DJ1_indexOfChar_4cfef_0_ok 0 rfl
theorem dJ1_indexOfChar_4cfef_1 : decode cJ1_indexOfChar_4cfef 1 = .ok (.i2b, 1) := dd_all DJ1_indexOfChar_4cfef_0_ok 1 rfl
theorem dJ1_indexOfChar_4cfef_2 : decode cJ1_indexOfChar_4cfef 2 = .ok (.istore 4, 2) := dd_all DJ1_indexOfChar_4cfef_0_ok 2 rfl
theorem dJ1_indexOfChar_4cfef_4 : decode cJ1_indexOfChar_4cfef 4 = .ok (.iload_n 2, 1) := dd_all DJ1_indexOfChar_4cfef_0_ok 3 rfl
theorem dJ1_indexOfChar_4cfef_5 : decode cJ1_indexOfChar_4cfef 5 = .ok (.istore 5, 2) := dd_all DJ1_indexOfChar_4cfef_0_ok 4 rfl
theorem dJ1_indexOfChar_4cfef_7 : decode cJ1_indexOfChar_4cfef 7 = .ok (.iload 5, 2) := dd_all DJ1_indexOfChar_4cfef_0_ok 5 rfl
theorem dJ1_indexOfChar_4cfef_9 : decode cJ1_indexOfChar_4cfef 9 = .ok (.iload_n 3, 1) := dd_all DJ1_indexOfChar_4cfef_0_ok 6 rfl
theorem dJ1_indexOfChar_4cfef_10 : decode cJ1_indexOfChar_4cfef 10 = .ok (.if_icmp .ge 21, 3) := dd_all DJ1_indexOfChar_4cfef_0_ok 7 rfl
theorem dJ1_indexOfChar_4cfef_13 : decode cJ1_indexOfChar_4cfef 13 = .ok (.aload_n 0, 1) := dd_all DJ1_indexOfChar_4cfef_0_ok 8 rfl
theorem dJ1_indexOfChar_4cfef_14 : decode cJ1_indexOfChar_4cfef 14 = .ok (.iload 5, 2) := dd_all DJ1_indexOfChar_4cfef_0_ok 9 rfl
theorem dJ1_indexOfChar_4cfef_16 : decode cJ1_indexOfChar_4cfef 16 = .ok (.baload, 1) := dd_all DJ1_indexOfChar_4cfef_0_ok 10 rfl
theorem dJ1_indexOfChar_4cfef_17 : decode cJ1_indexOfChar_4cfef 17 = .ok (.iload 4, 2) := dd_all DJ1_indexOfChar_4cfef_0_ok 11 rfl
theorem dJ1_indexOfChar_4cfef_19 : decode cJ1_indexOfChar_4cfef 19 = .ok (.if_icmp .ne 6, 3) := dd_all DJ1_indexOfChar_4cfef_0_ok 12 rfl
theorem dJ1_indexOfChar_4cfef_22 : decode cJ1_indexOfChar_4cfef 22 = .ok (.iload 5, 2) := dd_all DJ1_indexOfChar_4cfef_0_ok 13 rfl
theorem dJ1_indexOfChar_4cfef_24 : decode cJ1_indexOfChar_4cfef 24 = .ok (.ireturn, 1) := dd_all DJ1_indexOfChar_4cfef_0_ok 14 rfl
theorem dJ1_indexOfChar_4cfef_25 : decode cJ1_indexOfChar_4cfef 25 = .ok (.iinc 5 1, 3) := dd_all DJ1_indexOfChar_4cfef_0_ok 15 rfl
theorem dJ1_indexOfChar_4cfef_28 : decode cJ1_indexOfChar_4cfef 28 = .ok (.goto (-21), 3) := dd_all DJ1_indexOfChar_4cfef_0_ok 16 rfl
theorem dJ1_indexOfChar_4cfef_31 : decode cJ1_indexOfChar_4cfef 31 = .ok (.iconst (-1), 1) := dd_all DJ1_indexOfChar_4cfef_0_ok 17 rfl
theorem dJ1_indexOfChar_4cfef_32 : decode cJ1_indexOfChar_4cfef 32 = .ok (.ireturn, 1) := dd_all DJ1_indexOfChar_4cfef_0_ok 18 rfl
def DJ3_checkIndex_8e157_0 : List (Nat × Instr × Nat) := [(0, .iload_n 0, 1), (1, .ifCond .lt 8, 3), (4, .iload_n 0, 1), (5, .iload_n 1, 1), (6, .if_icmp .lt 10, 3), (9, .aload_n 2, 1), (10, .iload_n 0, 1), (11, .iload_n 1, 1), (12, .invokestatic 95, 3), (15, .athrow, 1), (16, .iload_n 0, 1), (17, .ireturn, 1)]
theorem DJ3_checkIndex_8e157_0_ok : ∀ q ∈ DJ3_checkIndex_8e157_0, decode cJ3_checkIndex_8e157 q.1 = .ok (q.2.1, q.2.2) := by decide +kernel
theorem dJ3_checkIndex_8e157_0 : decode cJ3_checkIndex_8e157 0 = .ok (.iload_n 0, 1) := dd_all DJ3_checkIndex_8e157_0_ok 0 rfl
theorem dJ3_checkIndex_8e157_1 : decode cJ3_checkIndex_8e157 1 = .ok (.ifCond .lt 8, 3) := dd_all DJ3_checkIndex_8e157_0_ok 1 rfl
theorem dJ3_checkIndex_8e157_4 : decode cJ3_checkIndex_8e157 4 = .ok (.iload_n 0, 1) := dd_all DJ3_checkIndex_8e157_0_ok 2 rfl
theorem dJ3_checkIndex_8e157_5 : decode cJ3_checkIndex_8e157 5 = .ok (.iload_n 1, 1) := dd_all DJ3_checkIndex_8e157_0_ok 3 rfl
theorem dJ3_checkIndex_8e157_6 : decode cJ3_checkIndex_8e157 6 = .ok (.if_icmp .lt 10, 3) := dd_all DJ3_checkIndex_8e157_0_ok 4 rfl
theorem dJ3_checkIndex_8e157_9 : decode cJ3_checkIndex_8e157 9 = .ok (.aload_n 2, 1) := dd_all DJ3_checkIndex_8e157_0_ok 5 rfl
theorem dJ3_checkIndex_8e157_10 : decode cJ3_checkIndex_8e157 10 = .ok (.iload_n 0, 1) := dd_all DJ3_checkIndex_8e157_0_ok 6 rfl
theorem dJ3_checkIndex_8e157_11 : decode cJ3_checkIndex_8e157 11 = .ok (.iload_n 1, 1) := dd_all DJ3_checkIndex_8e157_0_ok 7 rfl
theorem dJ3_checkIndex_8e157_12 : decode cJ3_checkIndex_8e157 12 = .ok (.invokestatic 95, 3) := dd_all DJ3_checkIndex_8e157_0_ok 8 rfl
theorem dJ3_checkIndex_8e157_15 : decode cJ3_checkIndex_8e157 15 = .ok (.athrow, 1) := dd_all DJ3_checkIndex_8e157_0_ok 9 rfl
theorem dJ3_checkIndex_8e157_16 : decode cJ3_checkIndex_8e157 16 = .ok (.iload_n 0, 1) := dd_all DJ3_checkIndex_8e157_0_ok 10 rfl
theorem dJ3_checkIndex_8e157_17 : decode cJ3_checkIndex_8e157 17 = .ok (.ireturn, 1) := dd_all DJ3_checkIndex_8e157_0_ok 11 rfl
def DJ3_checkFromToIndex_8c36e_0 : List (Nat × Instr × Nat) := [(0, .iload_n 0, 1), (1, .ifCond .lt 13, 3), (4, .iload_n 0, 1), (5, .iload_n 1, 1), (6, .if_icmp .gt 8, 3), (9, .iload_n 1, 1), (10, .iload_n 2, 1), (11, .if_icmp .le 11, 3), (14, .aload_n 3, 1), (15, .iload_n 0, 1), (16, .iload_n 1, 1), (17, .iload_n 2, 1), (18, .invokestatic 99, 3), (21, .athrow, 1), (22, .iload_n 0, 1), (23, .ireturn, 1)]
theorem DJ3_checkFromToIndex_8c36e_0_ok : ∀ q ∈ DJ3_checkFromToIndex_8c36e_0, decode cJ3_checkFromToIndex_8c36e q.1 = .ok (q.2.1, q.2.2) := by decide +kernel
theorem dJ3_checkFromToIndex_8c36e_0 : decode cJ3_checkFromToIndex_8c36e 0 = .ok (.iload_n 0, 1) := dd_all DJ3_checkFromToIndex_8c36e_0_ok 0 rfl
theorem dJ3_checkFromToIndex_8c36e_1 : decode cJ3_checkFromToIndex_8c36e 1 = .ok (.ifCond .lt 13, 3) := dd_all DJ3_checkFromToIndex_8c36e_0_ok 1 rfl
theorem dJ3_checkFromToIndex_8c36e_4 : decode cJ3_checkFromToIndex_8c36e 4 = .ok (.iload_n 0, 1) := dd_all DJ3_checkFromToIndex_8c36e_0_ok 2 rfl
theorem dJ3_checkFromToIndex_8c36e_5 : decode cJ3_checkFromToIndex_8c36e 5 = .ok (.iload_n 1, 1) := dd_all DJ3_checkFromToIndex_8c36e_0_ok 3 rfl
theorem dJ3_checkFromToIndex_8c36e_6 : decode cJ3_checkFromToIndex_8c36e 6 = .ok (.if_icmp .gt 8, 3) := dd_all DJ3_checkFromToIndex_8c36e_0_ok 4 rfl
theorem dJ3_checkFromToIndex_8c36e_9 : decode cJ3_checkFromToIndex_8c36e 9 = .ok (.iload_n 1, 1) := dd_all DJ3_checkFromToIndex_8c36e_0_ok 5 rfl
theorem dJ3_checkFromToIndex_8c36e_10 : decode cJ3_checkFromToIndex_8c36e 10 = .ok (.iload_n 2, 1) := dd_all DJ3_checkFromToIndex_8c36e_0_ok 6 rfl
theorem dJ3_checkFromToIndex_8c36e_11 : decode cJ3_checkFromToIndex_8c36e 11 = .ok (.if_icmp .le 11, 3) := dd_all DJ3_checkFromToIndex_8c36e_0_ok 7 rfl
theorem dJ3_checkFromToIndex_8c36e_14 : decode cJ3_checkFromToIndex_8c36e 14 = .ok (.aload_n 3, 1) := dd_all DJ3_checkFromToIndex_8c36e_0_ok 8 rfl
theorem dJ3_checkFromToIndex_8c36e_15 : decode cJ3_checkFromToIndex_8c36e 15 = .ok (.iload_n 0, 1) := dd_all DJ3_checkFromToIndex_8c36e_0_ok 9 rfl
theorem dJ3_checkFromToIndex_8c36e_16 : decode cJ3_checkFromToIndex_8c36e 16 = .ok (.iload_n 1, 1) := dd_all DJ3_checkFromToIndex_8c36e_0_ok 10 rfl
theorem dJ3_checkFromToIndex_8c36e_17 : decode cJ3_checkFromToIndex_8c36e 17 = .ok (.iload_n 2, 1) := dd_all DJ3_checkFromToIndex_8c36e_0_ok 11 rfl
theorem dJ3_checkFromToIndex_8c36e_18 : decode cJ3_checkFromToIndex_8c36e 18 = .ok (.invokestatic 99, 3) := dd_all DJ3_checkFromToIndex_8c36e_0_ok 12 rfl
theorem dJ3_checkFromToIndex_8c36e_21 : decode cJ3_checkFromToIndex_8c36e 21 = .ok (.athrow, 1) := dd_all DJ3_checkFromToIndex_8c36e_0_ok 13 rfl
theorem dJ3_checkFromToIndex_8c36e_22 : decode cJ3_checkFromToIndex_8c36e 22 = .ok (.iload_n 0, 1) := dd_all DJ3_checkFromToIndex_8c36e_0_ok 14 rfl
theorem dJ3_checkFromToIndex_8c36e_23 : decode cJ3_checkFromToIndex_8c36e 23 = .ok (.ireturn, 1) := dd_all DJ3_checkFromToIndex_8c36e_0_ok 15 rfl
def DJ9_max_7cf53_0 : List (Nat × Instr × Nat) := [(0, .iload_n 0, 1), (1, .iload_n 1, 1), (2, .if_icmp .lt 7, 3), (5, .iload_n 0, 1), (6, .goto 4, 3), (9, .iload_n 1, 1), (10, .ireturn, 1)]
theorem DJ9_max_7cf53_0_ok : ∀ q ∈ DJ9_max_7cf53_0, decode cJ9_max_7cf53 q.1 = .ok (q.2.1, q.2.2) := by decide +kernel
theorem dJ9_max_7cf53_0 : decode cJ9_max_7cf53 0 = .ok (.iload_n 0, 1) := dd_all DJ9_max_7cf53_0_ok 0 rfl
theorem dJ9_max_7cf53_1 : decode cJ9_max_7cf53 1 = .ok (.iload_n 1, 1) := dd_all DJ9_max_7cf53_0_ok 1 rfl
theorem dJ9_max_7cf53_2 : decode cJ9_max_7cf53 2 = .ok (.if_icmp .lt 7, 3) := dd_all DJ9_max_7cf53_0_ok 2 rfl
theorem dJ9_max_7cf53_5 : decode cJ9_max_7cf53 5 = .ok (.iload_n 0, 1) := dd_all DJ9_max_7cf53_0_ok 3 rfl
theorem dJ9_max_7cf53_6 : decode cJ9_max_7cf53 6 = .ok (.goto 4, 3) := dd_all DJ9_max_7cf53_0_ok 4 rfl
theorem dJ9_max_7cf53_9 : decode cJ9_max_7cf53 9 = .ok (.iload_n 1, 1) := dd_all DJ9_max_7cf53_0_ok 5 rfl
theorem dJ9_max_7cf53_10 : decode cJ9_max_7cf53 10 = .ok (.ireturn, 1) := dd_all DJ9_max_7cf53_0_ok 6 rfl
def DJ9_min_7cf53_0 : List (Nat × Instr × Nat) := [(0, .iload_n 0, 1), (1, .iload_n 1, 1), (2, .if_icmp .gt 7, 3), (5, .iload_n 0, 1), (6, .goto 4, 3), (9, .iload_n 1, 1), (10, .ireturn, 1)]
theorem DJ9_min_7cf53_0_ok : ∀ q ∈ DJ9_min_7cf53_0, decode cJ9_min_7cf53 q.1 = .ok (q.2.1, q.2.2) := by decide +kernel
theorem dJ9_min_7cf53_0 : decode cJ9_min_7cf53 0 = .ok (.iload_n 0, 1) := dd_all DJ9_min_7cf53_0_ok 0 rfl
theorem dJ9_min_7cf53_1 : decode cJ9_min_7cf53 1 = .ok (.iload_n 1, 1) := dd_all DJ9_min_7cf53_0_ok 1 rfl
theorem dJ9_min_7cf53_2 : decode cJ9_min_7cf53 2 = .ok (.if_icmp .gt 7, 3) := dd_all DJ9_min_7cf53_0_ok 2 rfl
theorem dJ9_min_7cf53_5 : decode cJ9_min_7cf53 5 = .ok (.iload_n 0, 1) := dd_all DJ9_min_7cf53_0_ok 3 rfl
theorem dJ9_min_7cf53_6 : decode cJ9_min_7cf53 6 = .ok (.goto 4, 3) := dd_all DJ9_min_7cf53_0_ok 4 rfl
theorem dJ9_min_7cf53_9 : decode cJ9_min_7cf53 9 = .ok (.iload_n 1, 1) := dd_all DJ9_min_7cf53_0_ok 5 rfl
theorem dJ9_min_7cf53_10 : decode cJ9_min_7cf53 10 = .ok (.ireturn, 1) := dd_all DJ9_min_7cf53_0_ok 6 rfl
def DL_law_0 : List (Nat × Instr × Nat) := [(0, .new 7, 3), (3, .dup, 1), (4, .invokespecial 9, 3), (7, .astore_n 1, 1), (8, .new 10, 3), (11, .dup, 1), (12, .invokespecial 12, 3), (15, .astore_n 2, 1), (16, .iconst 0, 1), (17, .istore_n 3, 1), (18, .iload_n 3, 1), (19, .aload_n 0, 1), (20, .arraylength, 1), (21, .iconst 4, 1), (22, .isub, 1), (23, .if_icmp .gt 598, 3), (26, .aload_n 0, 1), (27, .iload_n 3, 1), (28, .iaload, 1), (29, .bipush 31, 2), (31, .iand, 1), (32, .tableswitch 583 0 20 #[100, 143, 176, 199, 222, 255, 288, 311, 344, 377, 400, 413, 436, 449, 462, 475, 498, 511, 534, 547, 560], 100), (132, .aload_n 1, 1), (133, .aload_n 0, 1), (134, .iload_n 3, 1), (135, .iconst 1, 1), (136, .iadd, 1), (137, .iaload, 1), (138, .aload_n 0, 1), (139, .iload_n 3, 1), (140, .iconst 2, 1), (141, .iadd, 1), (142, .iaload, 1), (143, .aload_n 0, 1), (144, .iload_n 3, 1), (145, .iconst 3, 1), (146, .iadd, 1), (147, .iaload, 1), (148, .invokevirtual 13, 3), (151, .aload_n 2, 1)]
theorem DL_law_0_ok : ∀ q ∈ DL_law_0, decode cL_law q.1 = .ok (q.2.1, q.2.2) := by decide +kernel
theorem dL_law_0 : decode cL_law 0 = .ok (.new 7, 3) := dd_all DL_law_0_ok 0 rfl
theorem dL_law_3 : decode cL_law 3 = .ok (.dup, 1) := dd_all DL_law_0_ok 1 rfl
theorem dL_law_4 : decode cL_law 4 = .ok (.invokespecial 9, 3) := dd_all DL_law_0_ok 2 rfl
theorem dL_law_7 : decode cL_law 7 = .ok (.astore_n 1, 1) := dd_all DL_law_0_ok 3 rfl
theorem dL_law_8 : decode cL_law 8 = .ok (.new 10, 3) := dd_all DL_law_0_ok 4 rfl
theorem dL_law_11 : decode cL_law 11 = .ok (.dup, 1) := dd_all DL_law_0_ok 5 rfl
theorem dL_law_12 : decode cL_law 12 = .ok (.invokespecial 12, 3) := dd_all DL_law_0_ok 6 rfl
theorem dL_law_15 : decode cL_law 15 = .ok (.astore_n 2, 1) := dd_all DL_law_0_ok 7 rfl
theorem dL_law_16 : decode cL_law 16 = .ok (.iconst 0, 1) := dd_all DL_law_0_ok 8 rfl
theorem dL_law_17 : decode cL_law 17 = .ok (.istore_n 3, 1) := dd_all DL_law_0_ok 9 rfl
theorem dL_law_18 : decode cL_law 18 = .ok (.iload_n 3, 1) := dd_all DL_law_0_ok 10 rfl
theorem dL_law_19 : decode cL_law 19 = .ok (.aload_n 0, 1) := dd_all DL_law_0_ok 11 rfl
theorem dL_law_20 : decode cL_law 20 = .ok (.arraylength, 1) := dd_all DL_law_0_ok 12 rfl
theorem dL_law_21 : decode cL_law 21 = .ok (.iconst 4, 1) := dd_all DL_law_0_ok 13 rfl
theorem dL_law_22 : decode cL_law 22 = .ok (.isub, 1) := dd_all DL_law_0_ok 14 rfl
theorem dL_law_23 : decode cL_law 23 = .ok (.if_icmp .gt 598, 3) := dd_all DL_law_0_ok 15 rfl
theorem dL_law_26 : decode cL_law 26 = .ok (.aload_n 0, 1) := dd_all DL_law_0_ok 16 rfl
theorem dL_law_27 : decode cL_law 27 = .ok (.iload_n 3, 1) := dd_all DL_law_0_ok 17 rfl
theorem dL_law_28 : decode cL_law 28 = .ok (.iaload, 1) := dd_all DL_law_0_ok 18 rfl
theorem dL_law_29 : decode cL_law 29 = .ok (.bipush 31, 2) := dd_all DL_law_0_ok 19 rfl
theorem dL_law_31 : decode cL_law 31 = .ok (.iand, 1) := dd_all DL_law_0_ok 20 rfl
theorem dL_law_32 : decode cL_law 32 = .ok (.tableswitch 583 0 20 #[100, 143, 176, 199, 222, 255, 288, 311, 344, 377, 400, 413, 436, 449, 462, 475, 498, 511, 534, 547, 560], 100) := dd_all DL_law_0_ok 21 rfl
theorem dL_law_132 : decode cL_law 132 = .ok (.aload_n 1, 1) := dd_all DL_law_0_ok 22 rfl
theorem dL_law_133 : decode cL_law 133 = .ok (.aload_n 0, 1) := dd_all DL_law_0_ok 23 rfl
theorem dL_law_134 : decode cL_law 134 = .ok (.iload_n 3, 1) := dd_all DL_law_0_ok 24 rfl
theorem dL_law_135 : decode cL_law 135 = .ok (.iconst 1, 1) := dd_all DL_law_0_ok 25 rfl
theorem dL_law_136 : decode cL_law 136 = .ok (.iadd, 1) := dd_all DL_law_0_ok 26 rfl
theorem dL_law_137 : decode cL_law 137 = .ok (.iaload, 1) := dd_all DL_law_0_ok 27 rfl
theorem dL_law_138 : decode cL_law 138 = .ok (.aload_n 0, 1) := dd_all DL_law_0_ok 28 rfl
theorem dL_law_139 : decode cL_law 139 = .ok (.iload_n 3, 1) := dd_all DL_law_0_ok 29 rfl
theorem dL_law_140 : decode cL_law 140 = .ok (.iconst 2, 1) := dd_all DL_law_0_ok 30 rfl
theorem dL_law_141 : decode cL_law 141 = .ok (.iadd, 1) := dd_all DL_law_0_ok 31 rfl
theorem dL_law_142 : decode cL_law 142 = .ok (.iaload, 1) := dd_all DL_law_0_ok 32 rfl
theorem dL_law_143 : decode cL_law 143 = .ok (.aload_n 0, 1) := dd_all DL_law_0_ok 33 rfl
theorem dL_law_144 : decode cL_law 144 = .ok (.iload_n 3, 1) := dd_all DL_law_0_ok 34 rfl
theorem dL_law_145 : decode cL_law 145 = .ok (.iconst 3, 1) := dd_all DL_law_0_ok 35 rfl
theorem dL_law_146 : decode cL_law 146 = .ok (.iadd, 1) := dd_all DL_law_0_ok 36 rfl
theorem dL_law_147 : decode cL_law 147 = .ok (.iaload, 1) := dd_all DL_law_0_ok 37 rfl
theorem dL_law_148 : decode cL_law 148 = .ok (.invokevirtual 13, 3) := dd_all DL_law_0_ok 38 rfl
theorem dL_law_151 : decode cL_law 151 = .ok (.aload_n 2, 1) := dd_all DL_law_0_ok 39 rfl
def DL_law_40 : List (Nat × Instr × Nat) := [(152, .aload_n 0, 1), (153, .iload_n 3, 1), (154, .iconst 1, 1), (155, .iadd, 1), (156, .iaload, 1), (157, .aload_n 0, 1), (158, .iload_n 3, 1), (159, .iconst 2, 1), (160, .iadd, 1), (161, .iaload, 1), (162, .aload_n 0, 1), (163, .iload_n 3, 1), (164, .iconst 3, 1), (165, .iadd, 1), (166, .iaload, 1), (167, .invokevirtual 17, 3), (170, .if_icmp .eq 445, 3), (173, .iconst 0, 1), (174, .ireturn, 1), (175, .aload_n 1, 1), (176, .aload_n 0, 1), (177, .iload_n 3, 1), (178, .iconst 1, 1), (179, .iadd, 1), (180, .iaload, 1), (181, .aload_n 0, 1), (182, .iload_n 3, 1), (183, .iconst 2, 1), (184, .iadd, 1), (185, .iaload, 1), (186, .invokevirtual 18, 3), (189, .aload_n 2, 1), (190, .aload_n 0, 1), (191, .iload_n 3, 1), (192, .iconst 1, 1), (193, .iadd, 1), (194, .iaload, 1), (195, .aload_n 0, 1), (196, .iload_n 3, 1), (197, .iconst 2, 1)]
theorem DL_law_40_ok : ∀ q ∈ DL_law_40, decode cL_law q.1 = .ok (q.2.1, q.2.2) := by decide +kernel
theorem dL_law_152 : decode cL_law 152 = .ok (.aload_n 0, 1) := dd_all DL_law_40_ok 0 rfl
theorem dL_law_153 : decode cL_law 153 = .ok (.iload_n 3, 1) := dd_all DL_law_40_ok 1 rfl
theorem dL_law_154 : decode cL_law 154 = .ok (.iconst 1, 1) := dd_all DL_law_40_ok 2 rfl
theorem dL_law_155 : decode cL_law 155 = .ok (.iadd, 1) := dd_all DL_law_40_ok 3 rfl
theorem dL_law_156 : decode cL_law 156 = .ok (.iaload, 1) := dd_all DL_law_40_ok 4 rfl
theorem dL_law_157 : decode cL_law 157 = .ok (.aload_n 0, 1) := dd_all DL_law_40_ok 5 rfl
theorem dL_law_158 : decode cL_law 158 = .ok (.iload_n 3, 1) := dd_all DL_law_40_ok 6 rfl
theorem dL_law_159 : decode cL_law 159 = .ok (.iconst 2, 1) := dd_all DL_law_40_ok 7 rfl
theorem dL_law_160 : decode cL_law 160 = .ok (.iadd, 1) := dd_all DL_law_40_ok 8 rfl
theorem dL_law_161 : decode cL_law 161 = .ok (.iaload, 1) := dd_all DL_law_40_ok 9 rfl
theorem dL_law_162 : decode cL_law 162 = .ok (.aload_n 0, 1) := dd_all DL_law_40_ok 10 rfl
theorem dL_law_163 : decode cL_law 163 = .ok (.iload_n 3, 1) := dd_all DL_law_40_ok 11 rfl
theorem dL_law_164 : decode cL_law 164 = .ok (.iconst 3, 1) := dd_all DL_law_40_ok 12 rfl
theorem dL_law_165 : decode cL_law 165 = .ok (.iadd, 1) := dd_all DL_law_40_ok 13 rfl
theorem dL_law_166 : decode cL_law 166 = .ok (.iaload, 1) := dd_all DL_law_40_ok 14 rfl
theorem dL_law_167 : decode cL_law 167 = .ok (.invokevirtual 17, 3) := dd_all DL_law_40_ok 15 rfl
theorem dL_law_170 : decode cL_law 170 = .ok (.if_icmp .eq 445, 3) := dd_all DL_law_40_ok 16 rfl
theorem dL_law_173 : decode cL_law 173 = .ok (.iconst 0, 1) := dd_all DL_law_40_ok 17 rfl
theorem dL_law_174 : decode cL_law 174 = .ok (.ireturn, 1) := dd_all DL_law_40_ok 18 rfl
theorem dL_law_175 : decode cL_law 175 = .ok (.aload_n 1, 1) := dd_all DL_law_40_ok 19 rfl
theorem dL_law_176 : decode cL_law 176 = .ok (.aload_n 0, 1) := dd_all DL_law_40_ok 20 rfl
theorem dL_law_177 : decode cL_law 177 = .ok (.iload_n 3, 1) := dd_all DL_law_40_ok 21 rfl
theorem dL_law_178 : decode cL_law 178 = .ok (.iconst 1, 1) := dd_all DL_law_40_ok 22 rfl
theorem dL_law_179 : decode cL_law 179 = .ok (.iadd, 1) := dd_all DL_law_40_ok 23 rfl
theorem dL_law_180 : decode cL_law 180 = .ok (.iaload, 1) := dd_all DL_law_40_ok 24 rfl
theorem dL_law_181 : decode cL_law 181 = .ok (.aload_n 0, 1) := dd_all DL_law_40_ok 25 rfl
theorem dL_law_182 : decode cL_law 182 = .ok (.iload_n 3, 1) := dd_all DL_law_40_ok 26 rfl
theorem dL_law_183 : decode cL_law 183 = .ok (.iconst 2, 1) := dd_all DL_law_40_ok 27 rfl
theorem dL_law_184 : decode cL_law 184 = .ok (.iadd, 1) := dd_all DL_law_40_ok 28 rfl
theorem dL_law_185 : decode cL_law 185 = .ok (.iaload, 1) := dd_all DL_law_40_ok 29 rfl
theorem dL_law_186 : decode cL_law 186 = .ok (.invokevirtual 18, 3) := dd_all DL_law_40_ok 30 rfl
theorem dL_law_189 : decode cL_law 189 = .ok (.aload_n 2, 1) := dd_all DL_law_40_ok 31 rfl
theorem dL_law_190 : decode cL_law 190 = .ok (.aload_n 0, 1) := dd_all DL_law_40_ok 32 rfl
theorem dL_law_191 : decode cL_law 191 = .ok (.iload_n 3, 1) := dd_all DL_law_40_ok 33 rfl
theorem dL_law_192 : decode cL_law 192 = .ok (.iconst 1, 1) := dd_all DL_law_40_ok 34 rfl
theorem dL_law_193 : decode cL_law 193 = .ok (.iadd, 1) := dd_all DL_law_40_ok 35 rfl
theorem dL_law_194 : decode cL_law 194 = .ok (.iaload, 1) := dd_all DL_law_40_ok 36 rfl
theorem dL_law_195 : decode cL_law 195 = .ok (.aload_n 0, 1) := dd_all DL_law_40_ok 37 rfl
theorem dL_law_196 : decode cL_law 196 = .ok (.iload_n 3, 1) := dd_all DL_law_40_ok 38 rfl
theorem dL_law_197 : decode cL_law 197 = .ok (.iconst 2, 1) := dd_all DL_law_40_ok 39 rfl
def DL_law_80 : List (Nat × Instr × Nat) := [(198, .iadd, 1), (199, .iaload, 1), (200, .invokevirtual 22, 3), (203, .if_icmp .eq 412, 3), (206, .iconst 0, 1), (207, .ireturn, 1), (208, .aload_n 1, 1), (209, .aload_n 0, 1), (210, .iload_n 3, 1), (211, .iconst 1, 1), (212, .iadd, 1), (213, .iaload, 1), (214, .invokevirtual 23, 3), (217, .aload_n 2, 1), (218, .aload_n 0, 1), (219, .iload_n 3, 1), (220, .iconst 1, 1), (221, .iadd, 1), (222, .iaload, 1), (223, .invokevirtual 27, 3), (226, .if_icmp .eq 389, 3), (229, .iconst 0, 1), (230, .ireturn, 1), (231, .aload_n 1, 1), (232, .aload_n 0, 1), (233, .iload_n 3, 1), (234, .iconst 1, 1), (235, .iadd, 1), (236, .iaload, 1), (237, .invokevirtual 28, 3), (240, .aload_n 2, 1), (241, .aload_n 0, 1), (242, .iload_n 3, 1), (243, .iconst 1, 1), (244, .iadd, 1), (245, .iaload, 1), (246, .invokevirtual 31, 3), (249, .if_icmp .eq 366, 3), (252, .iconst 0, 1), (253, .ireturn, 1)]
theorem DL_law_80_ok : ∀ q ∈ DL_law_80, decode cL_law q.1 = .ok (q.2.1, q.2.2) := by decide +kernel
theorem dL_law_198 : decode cL_law 198 = .ok (.iadd, 1) := dd_all DL_law_80_ok 0 rfl
theorem dL_law_199 : decode cL_law 199 = .ok (.iaload, 1) := dd_all DL_law_80_ok 1 rfl
theorem dL_law_200 : decode cL_law 200 = .ok (.invokevirtual 22, 3) := dd_all DL_law_80_ok 2 rfl
theorem dL_law_203 : decode cL_law 203 = .ok (.if_icmp .eq 412, 3) := dd_all DL_law_80_ok 3 rfl
theorem dL_law_206 : decode cL_law 206 = .ok (.iconst 0, 1) := dd_all DL_law_80_ok 4 rfl
theorem dL_law_207 : decode cL_law 207 = .ok (.ireturn, 1) := dd_all DL_law_80_ok 5 rfl
theorem dL_law_208 : decode cL_law 208 = .ok (.aload_n 1, 1) := dd_all DL_law_80_ok 6 rfl
theorem dL_law_209 : decode cL_law 209 = .ok (.aload_n 0, 1) := dd_all DL_law_80_ok 7 rfl
theorem dL_law_210 : decode cL_law 210 = .ok (.iload_n 3, 1) := dd_all DL_law_80_ok 8 rfl
theorem dL_law_211 : decode cL_law 211 = .ok (.iconst 1, 1) := dd_all DL_law_80_ok 9 rfl
theorem dL_law_212 : decode cL_law 212 = .ok (.iadd, 1) := dd_all DL_law_80_ok 10 rfl
theorem dL_law_213 : decode cL_law 213 = .ok (.iaload, 1) := dd_all DL_law_80_ok 11 rfl
theorem dL_law_214 : decode cL_law 214 = .ok (.invokevirtual 23, 3) := dd_all DL_law_80_ok 12 rfl
theorem dL_law_217 : decode cL_law 217 = .ok (.aload_n 2, 1) := dd_all DL_law_80_ok 13 rfl
theorem dL_law_218 : decode cL_law 218 = .ok (.aload_n 0, 1) := dd_all DL_law_80_ok 14 rfl
theorem dL_law_219 : decode cL_law 219 = .ok (.iload_n 3, 1) := dd_all DL_law_80_ok 15 rfl
theorem dL_law_220 : decode cL_law 220 = .ok (.iconst 1, 1) := dd_all DL_law_80_ok 16 rfl
theorem dL_law_221 : decode cL_law 221 = .ok (.iadd, 1) := dd_all DL_law_80_ok 17 rfl
theorem dL_law_222 : decode cL_law 222 = .ok (.iaload, 1) := dd_all DL_law_80_ok 18 rfl
theorem dL_law_223 : decode cL_law 223 = .ok (.invokevirtual 27, 3) := dd_all DL_law_80_ok 19 rfl
theorem dL_law_226 : decode cL_law 226 = .ok (.if_icmp .eq 389, 3) := dd_all DL_law_80_ok 20 rfl
theorem dL_law_229 : decode cL_law 229 = .ok (.iconst 0, 1) := dd_all DL_law_80_ok 21 rfl
theorem dL_law_230 : decode cL_law 230 = .ok (.ireturn, 1) := dd_all DL_law_80_ok 22 rfl
theorem dL_law_231 : decode cL_law 231 = .ok (.aload_n 1, 1) := dd_all DL_law_80_ok 23 rfl
theorem dL_law_232 : decode cL_law 232 = .ok (.aload_n 0, 1) := dd_all DL_law_80_ok 24 rfl
theorem dL_law_233 : decode cL_law 233 = .ok (.iload_n 3, 1) := dd_all DL_law_80_ok 25 rfl
theorem dL_law_234 : decode cL_law 234 = .ok (.iconst 1, 1) := dd_all DL_law_80_ok 26 rfl
theorem dL_law_235 : decode cL_law 235 = .ok (.iadd, 1) := dd_all DL_law_80_ok 27 rfl
theorem dL_law_236 : decode cL_law 236 = .ok (.iaload, 1) := dd_all DL_law_80_ok 28 rfl
theorem dL_law_237 : decode cL_law 237 = .ok (.invokevirtual 28, 3) := dd_all DL_law_80_ok 29 rfl
theorem dL_law_240 : decode cL_law 240 = .ok (.aload_n 2, 1) := dd_all DL_law_80_ok 30 rfl
theorem dL_law_241 : decode cL_law 241 = .ok (.aload_n 0, 1) := dd_all DL_law_80_ok 31 rfl
theorem dL_law_242 : decode cL_law 242 = .ok (.iload_n 3, 1) := dd_all DL_law_80_ok 32 rfl
theorem dL_law_243 : decode cL_law 243 = .ok (.iconst 1, 1) := dd_all DL_law_80_ok 33 rfl
theorem dL_law_244 : decode cL_law 244 = .ok (.iadd, 1) := dd_all DL_law_80_ok 34 rfl
theorem dL_law_245 : decode cL_law 245 = .ok (.iaload, 1) := dd_all DL_law_80_ok 35 rfl
theorem dL_law_246 : decode cL_law 246 = .ok (.invokevirtual 31, 3) := dd_all DL_law_80_ok 36 rfl
theorem dL_law_249 : decode cL_law 249 = .ok (.if_icmp .eq 366, 3) := dd_all DL_law_80_ok 37 rfl
theorem dL_law_252 : decode cL_law 252 = .ok (.iconst 0, 1) := dd_all DL_law_80_ok 38 rfl
theorem dL_law_253 : decode cL_law 253 = .ok (.ireturn, 1) := dd_all DL_law_80_ok 39 rfl
def DL_law_120 : List (Nat × Instr × Nat) := [(254, .aload_n 1, 1), (255, .aload_n 0, 1), (256, .iload_n 3, 1), (257, .iconst 1, 1), (258, .iadd, 1), (259, .iaload, 1), (260, .aload_n 0, 1), (261, .iload_n 3, 1), (262, .iconst 2, 1), (263, .iadd, 1), (264, .iaload, 1), (265, .invokevirtual 32, 3), (268, .aload_n 2, 1), (269, .aload_n 0, 1), (270, .iload_n 3, 1), (271, .iconst 1, 1), (272, .iadd, 1), (273, .iaload, 1), (274, .aload_n 0, 1), (275, .iload_n 3, 1), (276, .iconst 2, 1), (277, .iadd, 1), (278, .iaload, 1), (279, .invokevirtual 35, 3), (282, .if_icmp .eq 333, 3), (285, .iconst 0, 1), (286, .ireturn, 1), (287, .aload_n 1, 1), (288, .aload_n 0, 1), (289, .iload_n 3, 1), (290, .iconst 1, 1), (291, .iadd, 1), (292, .iaload, 1), (293, .aload_n 0, 1), (294, .iload_n 3, 1), (295, .iconst 2, 1), (296, .iadd, 1), (297, .iaload, 1), (298, .invokevirtual 36, 3), (301, .aload_n 2, 1)]
theorem DL_law_120_ok : ∀ q ∈ DL_law_120, decode cL_law q.1 = .ok (q.2.1, q.2.2) := by decide +kernel
theorem dL_law_254 : decode cL_law 254 = .ok (.aload_n 1, 1) := dd_all DL_law_120_ok 0 rfl
theorem dL_law_255 : decode cL_law 255 = .ok (.aload_n 0, 1) := dd_all DL_law_120_ok 1 rfl
theorem dL_law_256 : decode cL_law 256 = .ok (.iload_n 3, 1) := dd_all DL_law_120_ok 2 rfl
theorem dL_law_257 : decode cL_law 257 = .ok (.iconst 1, 1) := dd_all DL_law_120_ok 3 rfl
theorem dL_law_258 : decode cL_law 258 = .ok (.iadd, 1) := dd_all DL_law_120_ok 4 rfl
theorem dL_law_259 : decode cL_law 259 = .ok (.iaload, 1) := dd_all DL_law_120_ok 5 rfl
theorem dL_law_260 : decode cL_law 260 = .ok (.aload_n 0, 1) := dd_all DL_law_120_ok 6 rfl
theorem dL_law_261 : decode cL_law 261 = .ok (.iload_n 3, 1) := dd_all DL_law_120_ok 7 rfl
theorem dL_law_262 : decode cL_law 262 = .ok (.iconst 2, 1) := dd_all DL_law_120_ok 8 rfl
theorem dL_law_263 : decode cL_law 263 = .ok (.iadd, 1) := dd_all DL_law_120_ok 9 rfl
theorem dL_law_264 : decode cL_law 264 = .ok (.iaload, 1) := dd_all DL_law_120_ok 10 rfl
theorem dL_law_265 : decode cL_law 265 = .ok (.invokevirtual 32, 3) := dd_all DL_law_120_ok 11 rfl
theorem dL_law_268 : decode cL_law 268 = .ok (.aload_n 2, 1) := dd_all DL_law_120_ok 12 rfl
theorem dL_law_269 : decode cL_law 269 = .ok (.aload_n 0, 1) := dd_all DL_law_120_ok 13 rfl
theorem dL_law_270 : decode cL_law 270 = .ok (.iload_n 3, 1) := dd_all DL_law_120_ok 14 rfl
theorem dL_law_271 : decode cL_law 271 = .ok (.iconst 1, 1) := dd_all DL_law_120_ok 15 rfl
theorem dL_law_272 : decode cL_law 272 = .ok (.iadd, 1) := dd_all DL_law_120_ok 16 rfl
theorem dL_law_273 : decode cL_law 273 = .ok (.iaload, 1) := dd_all DL_law_120_ok 17 rfl
theorem dL_law_274 : decode cL_law 274 = .ok (.aload_n 0, 1) := dd_all DL_law_120_ok 18 rfl
theorem dL_law_275 : decode cL_law 275 = .ok (.iload_n 3, 1) := dd_all DL_law_120_ok 19 rfl
theorem dL_law_276 : decode cL_law 276 = .ok (.iconst 2, 1) := dd_all DL_law_120_ok 20 rfl
theorem dL_law_277 : decode cL_law 277 = .ok (.iadd, 1) := dd_all DL_law_120_ok 21 rfl
theorem dL_law_278 : decode cL_law 278 = .ok (.iaload, 1) := dd_all DL_law_120_ok 22 rfl
theorem dL_law_279 : decode cL_law 279 = .ok (.invokevirtual 35, 3) := dd_all DL_law_120_ok 23 rfl
theorem dL_law_282 : decode cL_law 282 = .ok (.if_icmp .eq 333, 3) := dd_all DL_law_120_ok 24 rfl
theorem dL_law_285 : decode cL_law 285 = .ok (.iconst 0, 1) := dd_all DL_law_120_ok 25 rfl
theorem dL_law_286 : decode cL_law 286 = .ok (.ireturn, 1) := dd_all DL_law_120_ok 26 rfl
theorem dL_law_287 : decode cL_law 287 = .ok (.aload_n 1, 1) := dd_all DL_law_120_ok 27 rfl
theorem dL_law_288 : decode cL_law 288 = .ok (.aload_n 0, 1) := dd_all DL_law_120_ok 28 rfl
theorem dL_law_289 : decode cL_law 289 = .ok (.iload_n 3, 1) := dd_all DL_law_120_ok 29 rfl
theorem dL_law_290 : decode cL_law 290 = .ok (.iconst 1, 1) := dd_all DL_law_120_ok 30 rfl
theorem dL_law_291 : decode cL_law 291 = .ok (.iadd, 1) := dd_all DL_law_120_ok 31 rfl
theorem dL_law_292 : decode cL_law 292 = .ok (.iaload, 1) := dd_all DL_law_120_ok 32 rfl
theorem dL_law_293 : decode cL_law 293 = .ok (.aload_n 0, 1) := dd_all DL_law_120_ok 33 rfl
theorem dL_law_294 : decode cL_law 294 = .ok (.iload_n 3, 1) := dd_all DL_law_120_ok 34 rfl
theorem dL_law_295 : decode cL_law 295 = .ok (.iconst 2, 1) := dd_all DL_law_120_ok 35 rfl
theorem dL_law_296 : decode cL_law 296 = .ok (.iadd, 1) := dd_all DL_law_120_ok 36 rfl
theorem dL_law_297 : decode cL_law 297 = .ok (.iaload, 1) := dd_all DL_law_120_ok 37 rfl
theorem dL_law_298 : decode cL_law 298 = .ok (.invokevirtual 36, 3) := dd_all DL_law_120_ok 38 rfl
theorem dL_law_301 : decode cL_law 301 = .ok (.aload_n 2, 1) := dd_all DL_law_120_ok 39 rfl
def DL_law_160 : List (Nat × Instr × Nat) := [(302, .aload_n 0, 1), (303, .iload_n 3, 1), (304, .iconst 1, 1), (305, .iadd, 1), (306, .iaload, 1), (307, .aload_n 0, 1), (308, .iload_n 3, 1), (309, .iconst 2, 1), (310, .iadd, 1), (311, .iaload, 1), (312, .invokevirtual 39, 3), (315, .if_icmp .eq 300, 3), (318, .iconst 0, 1), (319, .ireturn, 1), (320, .aload_n 1, 1), (321, .aload_n 0, 1), (322, .iload_n 3, 1), (323, .iconst 1, 1), (324, .iadd, 1), (325, .iaload, 1), (326, .invokevirtual 40, 3), (329, .aload_n 2, 1), (330, .aload_n 0, 1), (331, .iload_n 3, 1), (332, .iconst 1, 1), (333, .iadd, 1), (334, .iaload, 1), (335, .invokevirtual 43, 3), (338, .if_icmp .eq 277, 3), (341, .iconst 0, 1), (342, .ireturn, 1), (343, .aload_n 1, 1), (344, .aload_n 0, 1), (345, .iload_n 3, 1), (346, .iconst 1, 1), (347, .iadd, 1), (348, .iaload, 1), (349, .aload_n 0, 1), (350, .iload_n 3, 1), (351, .iconst 2, 1)]
theorem DL_law_160_ok : ∀ q ∈ DL_law_160, decode cL_law q.1 = .ok (q.2.1, q.2.2) := by decide +kernel
theorem dL_law_302 : decode cL_law 302 = .ok (.aload_n 0, 1) := dd_all DL_law_160_ok 0 rfl
theorem dL_law_303 : decode cL_law 303 = .ok (.iload_n 3, 1) := dd_all DL_law_160_ok 1 rfl
theorem dL_law_304 : decode cL_law 304 = .ok (.iconst 1, 1) := dd_all DL_law_160_ok 2 rfl
theorem dL_law_305 : decode cL_law 305 = .ok (.iadd, 1) := dd_all DL_law_160_ok 3 rfl
theorem dL_law_306 : decode cL_law 306 = .ok (.iaload, 1) := dd_all DL_law_160_ok 4 rfl
theorem dL_law_307 : decode cL_law 307 = .ok (.aload_n 0, 1) := dd_all DL_law_160_ok 5 rfl
theorem dL_law_308 : decode cL_law 308 = .ok (.iload_n 3, 1) := dd_all DL_law_160_ok 6 rfl
theorem dL_law_309 : decode cL_law 309 = .ok (.iconst 2, 1) := dd_all DL_law_160_ok 7 rfl
theorem dL_law_310 : decode cL_law 310 = .ok (.iadd, 1) := dd_all DL_law_160_ok 8 rfl
theorem dL_law_311 : decode cL_law 311 = .ok (.iaload, 1) := dd_all DL_law_160_ok 9 rfl
theorem dL_law_312 : decode cL_law 312 = .ok (.invokevirtual 39, 3) := dd_all DL_law_160_ok 10 rfl
theorem dL_law_315 : decode cL_law 315 = .ok (.if_icmp .eq 300, 3) := dd_all DL_law_160_ok 11 rfl
theorem dL_law_318 : decode cL_law 318 = .ok (.iconst 0, 1) := dd_all DL_law_160_ok 12 rfl
theorem dL_law_319 : decode cL_law 319 = .ok (.ireturn, 1) := dd_all DL_law_160_ok 13 rfl
theorem dL_law_320 : decode cL_law 320 = .ok (.aload_n 1, 1) := dd_all DL_law_160_ok 14 rfl
theorem dL_law_321 : decode cL_law 321 = .ok (.aload_n 0, 1) := dd_all DL_law_160_ok 15 rfl
theorem dL_law_322 : decode cL_law 322 = .ok (.iload_n 3, 1) := dd_all DL_law_160_ok 16 rfl
theorem dL_law_323 : decode cL_law 323 = .ok (.iconst 1, 1) := dd_all DL_law_160_ok 17 rfl
theorem dL_law_324 : decode cL_law 324 = .ok (.iadd, 1) := dd_all DL_law_160_ok 18 rfl
theorem dL_law_325 : decode cL_law 325 = .ok (.iaload, 1) := dd_all DL_law_160_ok 19 rfl
theorem dL_law_326 : decode cL_law 326 = .ok (.invokevirtual 40, 3) := dd_all DL_law_160_ok 20 rfl
theorem dL_law_329 : decode cL_law 329 = .ok (.aload_n 2, 1) := dd_all DL_law_160_ok 21 rfl
theorem dL_law_330 : decode cL_law 330 = .ok (.aload_n 0, 1) := dd_all DL_law_160_ok 22 rfl
theorem dL_law_331 : decode cL_law 331 = .ok (.iload_n 3, 1) := dd_all DL_law_160_ok 23 rfl
theorem dL_law_332 : decode cL_law 332 = .ok (.iconst 1, 1) := dd_all DL_law_160_ok 24 rfl
theorem dL_law_333 : decode cL_law 333 = .ok (.iadd, 1) := dd_all DL_law_160_ok 25 rfl
theorem dL_law_334 : decode cL_law 334 = .ok (.iaload, 1) := dd_all DL_law_160_ok 26 rfl
theorem dL_law_335 : decode cL_law 335 = .ok (.invokevirtual 43, 3) := dd_all DL_law_160_ok 27 rfl
theorem dL_law_338 : decode cL_law 338 = .ok (.if_icmp .eq 277, 3) := dd_all DL_law_160_ok 28 rfl
theorem dL_law_341 : decode cL_law 341 = .ok (.iconst 0, 1) := dd_all DL_law_160_ok 29 rfl
theorem dL_law_342 : decode cL_law 342 = .ok (.ireturn, 1) := dd_all DL_law_160_ok 30 rfl
theorem dL_law_343 : decode cL_law 343 = .ok (.aload_n 1, 1) := dd_all DL_law_160_ok 31 rfl
theorem dL_law_344 : decode cL_law 344 = .ok (.aload_n 0, 1) := dd_all DL_law_160_ok 32 rfl
theorem dL_law_345 : decode cL_law 345 = .ok (.iload_n 3, 1) := dd_all DL_law_160_ok 33 rfl
theorem dL_law_346 : decode cL_law 346 = .ok (.iconst 1, 1) := dd_all DL_law_160_ok 34 rfl
theorem dL_law_347 : decode cL_law 347 = .ok (.iadd, 1) := dd_all DL_law_160_ok 35 rfl
theorem dL_law_348 : decode cL_law 348 = .ok (.iaload, 1) := dd_all DL_law_160_ok 36 rfl
theorem dL_law_349 : decode cL_law 349 = .ok (.aload_n 0, 1) := dd_all DL_law_160_ok 37 rfl
theorem dL_law_350 : decode cL_law 350 = .ok (.iload_n 3, 1) := dd_all DL_law_160_ok 38 rfl
theorem dL_law_351 : decode cL_law 351 = .ok (.iconst 2, 1) := dd_all DL_law_160_ok 39 rfl
def DL_law_200 : List (Nat × Instr × Nat) := [(352, .iadd, 1), (353, .iaload, 1), (354, .invokevirtual 44, 3), (357, .aload_n 2, 1), (358, .aload_n 0, 1), (359, .iload_n 3, 1), (360, .iconst 1, 1), (361, .iadd, 1), (362, .iaload, 1), (363, .aload_n 0, 1), (364, .iload_n 3, 1), (365, .iconst 2, 1), (366, .iadd, 1), (367, .iaload, 1), (368, .invokevirtual 47, 3), (371, .if_icmp .eq 244, 3), (374, .iconst 0, 1), (375, .ireturn, 1), (376, .aload_n 1, 1), (377, .aload_n 0, 1), (378, .iload_n 3, 1), (379, .iconst 1, 1), (380, .iadd, 1), (381, .iaload, 1), (382, .aload_n 0, 1), (383, .iload_n 3, 1), (384, .iconst 2, 1), (385, .iadd, 1), (386, .iaload, 1), (387, .invokevirtual 48, 3), (390, .aload_n 2, 1), (391, .aload_n 0, 1), (392, .iload_n 3, 1), (393, .iconst 1, 1), (394, .iadd, 1), (395, .iaload, 1), (396, .aload_n 0, 1), (397, .iload_n 3, 1), (398, .iconst 2, 1), (399, .iadd, 1)]
theorem DL_law_200_ok : ∀ q ∈ DL_law_200, decode cL_law q.1 = .ok (q.2.1, q.2.2) := by decide +kernel
theorem dL_law_352 : decode cL_law 352 = .ok (.iadd, 1) := dd_all DL_law_200_ok 0 rfl
theorem dL_law_353 : decode cL_law 353 = .ok (.iaload, 1) := dd_all DL_law_200_ok 1 rfl
theorem dL_law_354 : decode cL_law 354 = .ok (.invokevirtual 44, 3) := dd_all DL_law_200_ok 2 rfl
theorem dL_law_357 : decode cL_law 357 = .ok (.aload_n 2, 1) := dd_all DL_law_200_ok 3 rfl
theorem dL_law_358 : decode cL_law 358 = .ok (.aload_n 0, 1) := dd_all DL_law_200_ok 4 rfl
theorem dL_law_359 : decode cL_law 359 = .ok (.iload_n 3, 1) := dd_all DL_law_200_ok 5 rfl
theorem dL_law_360 : decode cL_law 360 = .ok (.iconst 1, 1) := dd_all DL_law_200_ok 6 rfl
theorem dL_law_361 : decode cL_law 361 = .ok (.iadd, 1) := dd_all DL_law_200_ok 7 rfl
theorem dL_law_362 : decode cL_law 362 = .ok (.iaload, 1) := dd_all DL_law_200_ok 8 rfl
theorem dL_law_363 : decode cL_law 363 = .ok (.aload_n 0, 1) := dd_all DL_law_200_ok 9 rfl
theorem dL_law_364 : decode cL_law 364 = .ok (.iload_n 3, 1) := dd_all DL_law_200_ok 10 rfl
theorem dL_law_365 : decode cL_law 365 = .ok (.iconst 2, 1) := dd_all DL_law_200_ok 11 rfl
theorem dL_law_366 : decode cL_law 366 = .ok (.iadd, 1) := dd_all DL_law_200_ok 12 rfl
theorem dL_law_367 : decode cL_law 367 = .ok (.iaload, 1) := dd_all DL_law_200_ok 13 rfl
theorem dL_law_368 : decode cL_law 368 = .ok (.invokevirtual 47, 3) := dd_all DL_law_200_ok 14 rfl
theorem dL_law_371 : decode cL_law 371 = .ok (.if_icmp .eq 244, 3) := dd_all DL_law_200_ok 15 rfl
theorem dL_law_374 : decode cL_law 374 = .ok (.iconst 0, 1) := dd_all DL_law_200_ok 16 rfl
theorem dL_law_375 : decode cL_law 375 = .ok (.ireturn, 1) := dd_all DL_law_200_ok 17 rfl
theorem dL_law_376 : decode cL_law 376 = .ok (.aload_n 1, 1) := dd_all DL_law_200_ok 18 rfl
theorem dL_law_377 : decode cL_law 377 = .ok (.aload_n 0, 1) := dd_all DL_law_200_ok 19 rfl
theorem dL_law_378 : decode cL_law 378 = .ok (.iload_n 3, 1) := dd_all DL_law_200_ok 20 rfl
theorem dL_law_379 : decode cL_law 379 = .ok (.iconst 1, 1) := dd_all DL_law_200_ok 21 rfl
theorem dL_law_380 : decode cL_law 380 = .ok (.iadd, 1) := dd_all DL_law_200_ok 22 rfl
theorem dL_law_381 : decode cL_law 381 = .ok (.iaload, 1) := dd_all DL_law_200_ok 23 rfl
theorem dL_law_382 : decode cL_law 382 = .ok (.aload_n 0, 1) := dd_all DL_law_200_ok 24 rfl
theorem dL_law_383 : decode cL_law 383 = .ok (.iload_n 3, 1) := dd_all DL_law_200_ok 25 rfl
theorem dL_law_384 : decode cL_law 384 = .ok (.iconst 2, 1) := dd_all DL_law_200_ok 26 rfl
theorem dL_law_385 : decode cL_law 385 = .ok (.iadd, 1) := dd_all DL_law_200_ok 27 rfl
theorem dL_law_386 : decode cL_law 386 = .ok (.iaload, 1) := dd_all DL_law_200_ok 28 rfl
theorem dL_law_387 : decode cL_law 387 = .ok (.invokevirtual 48, 3) := dd_all DL_law_200_ok 29 rfl
theorem dL_law_390 : decode cL_law 390 = .ok (.aload_n 2, 1) := dd_all DL_law_200_ok 30 rfl
theorem dL_law_391 : decode cL_law 391 = .ok (.aload_n 0, 1) := dd_all DL_law_200_ok 31 rfl
theorem dL_law_392 : decode cL_law 392 = .ok (.iload_n 3, 1) := dd_all DL_law_200_ok 32 rfl
theorem dL_law_393 : decode cL_law 393 = .ok (.iconst 1, 1) := dd_all DL_law_200_ok 33 rfl
theorem dL_law_394 : decode cL_law 394 = .ok (.iadd, 1) := dd_all DL_law_200_ok 34 rfl
theorem dL_law_395 : decode cL_law 395 = .ok (.iaload, 1) := dd_all DL_law_200_ok 35 rfl
theorem dL_law_396 : decode cL_law 396 = .ok (.aload_n 0, 1) := dd_all DL_law_200_ok 36 rfl
theorem dL_law_397 : decode cL_law 397 = .ok (.iload_n 3, 1) := dd_all DL_law_200_ok 37 rfl
theorem dL_law_398 : decode cL_law 398 = .ok (.iconst 2, 1) := dd_all DL_law_200_ok 38 rfl
theorem dL_law_399 : decode cL_law 399 = .ok (.iadd, 1) := dd_all DL_law_200_ok 39 rfl
def DL_law_240 : List (Nat × Instr × Nat) := [(400, .iaload, 1), (401, .invokevirtual 51, 3), (404, .if_icmp .eq 211, 3), (407, .iconst 0, 1), (408, .ireturn, 1), (409, .aload_n 1, 1), (410, .aload_n 0, 1), (411, .iload_n 3, 1), (412, .iconst 1, 1), (413, .iadd, 1), (414, .iaload, 1), (415, .invokevirtual 52, 3), (418, .aload_n 2, 1), (419, .aload_n 0, 1), (420, .iload_n 3, 1), (421, .iconst 1, 1), (422, .iadd, 1), (423, .iaload, 1), (424, .invokevirtual 55, 3), (427, .if_icmp .eq 188, 3), (430, .iconst 0, 1), (431, .ireturn, 1), (432, .aload_n 1, 1), (433, .invokevirtual 56, 3), (436, .aload_n 2, 1), (437, .invokevirtual 60, 3), (440, .if_icmp .eq 175, 3), (443, .iconst 0, 1), (444, .ireturn, 1), (445, .aload_n 1, 1), (446, .aload_n 0, 1), (447, .iload_n 3, 1), (448, .iconst 1, 1), (449, .iadd, 1), (450, .iaload, 1), (451, .invokevirtual 61, 3), (454, .aload_n 2, 1), (455, .aload_n 0, 1), (456, .iload_n 3, 1), (457, .iconst 1, 1)]
theorem DL_law_240_ok : ∀ q ∈ DL_law_240, decode cL_law q.1 = .ok (q.2.1, q.2.2) := by decide +kernel
theorem dL_law_400 : decode cL_law 400 = .ok (.iaload, 1) := dd_all DL_law_240_ok 0 rfl
theorem dL_law_401 : decode cL_law 401 = .ok (.invokevirtual 51, 3) := dd_all DL_law_240_ok 1 rfl
theorem dL_law_404 : decode cL_law 404 = .ok (.if_icmp .eq 211, 3) := dd_all DL_law_240_ok 2 rfl
theorem dL_law_407 : decode cL_law 407 = .ok (.iconst 0, 1) := dd_all DL_law_240_ok 3 rfl
theorem dL_law_408 : decode cL_law 408 = .ok (.ireturn, 1) := dd_all DL_law_240_ok 4 rfl
theorem dL_law_409 : decode cL_law 409 = .ok (.aload_n 1, 1) := dd_all DL_law_240_ok 5 rfl
theorem dL_law_410 : decode cL_law 410 = .ok (.aload_n 0, 1) := dd_all DL_law_240_ok 6 rfl
theorem dL_law_411 : decode cL_law 411 = .ok (.iload_n 3, 1) := dd_all DL_law_240_ok 7 rfl
theorem dL_law_412 : decode cL_law 412 = .ok (.iconst 1, 1) := dd_all DL_law_240_ok 8 rfl
theorem dL_law_413 : decode cL_law 413 = .ok (.iadd, 1) := dd_all DL_law_240_ok 9 rfl
theorem dL_law_414 : decode cL_law 414 = .ok (.iaload, 1) := dd_all DL_law_240_ok 10 rfl
theorem dL_law_415 : decode cL_law 415 = .ok (.invokevirtual 52, 3) := dd_all DL_law_240_ok 11 rfl
theorem dL_law_418 : decode cL_law 418 = .ok (.aload_n 2, 1) := dd_all DL_law_240_ok 12 rfl
theorem dL_law_419 : decode cL_law 419 = .ok (.aload_n 0, 1) := dd_all DL_law_240_ok 13 rfl
theorem dL_law_420 : decode cL_law 420 = .ok (.iload_n 3, 1) := dd_all DL_law_240_ok 14 rfl
theorem dL_law_421 : decode cL_law 421 = .ok (.iconst 1, 1) := dd_all DL_law_240_ok 15 rfl
theorem dL_law_422 : decode cL_law 422 = .ok (.iadd, 1) := dd_all DL_law_240_ok 16 rfl
theorem dL_law_423 : decode cL_law 423 = .ok (.iaload, 1) := dd_all DL_law_240_ok 17 rfl
theorem dL_law_424 : decode cL_law 424 = .ok (.invokevirtual 55, 3) := dd_all DL_law_240_ok 18 rfl
theorem dL_law_427 : decode cL_law 427 = .ok (.if_icmp .eq 188, 3) := dd_all DL_law_240_ok 19 rfl
theorem dL_law_430 : decode cL_law 430 = .ok (.iconst 0, 1) := dd_all DL_law_240_ok 20 rfl
theorem dL_law_431 : decode cL_law 431 = .ok (.ireturn, 1) := dd_all DL_law_240_ok 21 rfl
theorem dL_law_432 : decode cL_law 432 = .ok (.aload_n 1, 1) := dd_all DL_law_240_ok 22 rfl
theorem dL_law_433 : decode cL_law 433 = .ok (.invokevirtual 56, 3) := dd_all DL_law_240_ok 23 rfl
theorem dL_law_436 : decode cL_law 436 = .ok (.aload_n 2, 1) := dd_all DL_law_240_ok 24 rfl
theorem dL_law_437 : decode cL_law 437 = .ok (.invokevirtual 60, 3) := dd_all DL_law_240_ok 25 rfl
theorem dL_law_440 : decode cL_law 440 = .ok (.if_icmp .eq 175, 3) := dd_all DL_law_240_ok 26 rfl
theorem dL_law_443 : decode cL_law 443 = .ok (.iconst 0, 1) := dd_all DL_law_240_ok 27 rfl
theorem dL_law_444 : decode cL_law 444 = .ok (.ireturn, 1) := dd_all DL_law_240_ok 28 rfl
theorem dL_law_445 : decode cL_law 445 = .ok (.aload_n 1, 1) := dd_all DL_law_240_ok 29 rfl
theorem dL_law_446 : decode cL_law 446 = .ok (.aload_n 0, 1) := dd_all DL_law_240_ok 30 rfl
theorem dL_law_447 : decode cL_law 447 = .ok (.iload_n 3, 1) := dd_all DL_law_240_ok 31 rfl
theorem dL_law_448 : decode cL_law 448 = .ok (.iconst 1, 1) := dd_all DL_law_240_ok 32 rfl
theorem dL_law_449 : decode cL_law 449 = .ok (.iadd, 1) := dd_all DL_law_240_ok 33 rfl
theorem dL_law_450 : decode cL_law 450 = .ok (.iaload, 1) := dd_all DL_law_240_ok 34 rfl
theorem dL_law_451 : decode cL_law 451 = .ok (.invokevirtual 61, 3) := dd_all DL_law_240_ok 35 rfl
theorem dL_law_454 : decode cL_law 454 = .ok (.aload_n 2, 1) := dd_all DL_law_240_ok 36 rfl
theorem dL_law_455 : decode cL_law 455 = .ok (.aload_n 0, 1) := dd_all DL_law_240_ok 37 rfl
theorem dL_law_456 : decode cL_law 456 = .ok (.iload_n 3, 1) := dd_all DL_law_240_ok 38 rfl
theorem dL_law_457 : decode cL_law 457 = .ok (.iconst 1, 1) := dd_all DL_law_240_ok 39 rfl
def DL_law_280 : List (Nat × Instr × Nat) := [(458, .iadd, 1), (459, .iaload, 1), (460, .invokevirtual 64, 3), (463, .if_icmp .eq 152, 3), (466, .iconst 0, 1), (467, .ireturn, 1), (468, .aload_n 1, 1), (469, .invokevirtual 65, 3), (472, .aload_n 2, 1), (473, .invokevirtual 68, 3), (476, .if_icmp .eq 139, 3), (479, .iconst 0, 1), (480, .ireturn, 1), (481, .aload_n 1, 1), (482, .invokevirtual 69, 3), (485, .aload_n 2, 1), (486, .invokevirtual 72, 3), (489, .if_icmp .eq 126, 3), (492, .iconst 0, 1), (493, .ireturn, 1), (494, .aload_n 1, 1), (495, .invokevirtual 73, 3), (498, .aload_n 2, 1), (499, .invokevirtual 76, 3), (502, .if_icmp .eq 113, 3), (505, .iconst 0, 1), (506, .ireturn, 1), (507, .aload_n 1, 1), (508, .aload_n 0, 1), (509, .iload_n 3, 1), (510, .iconst 1, 1), (511, .iadd, 1), (512, .iaload, 1), (513, .invokevirtual 77, 3), (516, .aload_n 2, 1), (517, .aload_n 0, 1), (518, .iload_n 3, 1), (519, .iconst 1, 1), (520, .iadd, 1), (521, .iaload, 1)]
theorem DL_law_280_ok : ∀ q ∈ DL_law_280, decode cL_law q.1 = .ok (q.2.1, q.2.2) := by decide +kernel
theorem dL_law_458 : decode cL_law 458 = .ok (.iadd, 1) := dd_all DL_law_280_ok 0 rfl
theorem dL_law_459 : decode cL_law 459 = .ok (.iaload, 1) := dd_all DL_law_280_ok 1 rfl
theorem dL_law_460 : decode cL_law 460 = .ok (.invokevirtual 64, 3) := dd_all DL_law_280_ok 2 rfl
theorem dL_law_463 : decode cL_law 463 = .ok (.if_icmp .eq 152, 3) := dd_all DL_law_280_ok 3 rfl
theorem dL_law_466 : decode cL_law 466 = .ok (.iconst 0, 1) := dd_all DL_law_280_ok 4 rfl
theorem dL_law_467 : decode cL_law 467 = .ok (.ireturn, 1) := dd_all DL_law_280_ok 5 rfl
theorem dL_law_468 : decode cL_law 468 = .ok (.aload_n 1, 1) := dd_all DL_law_280_ok 6 rfl
theorem dL_law_469 : decode cL_law 469 = .ok (.invokevirtual 65, 3) := dd_all DL_law_280_ok 7 rfl
theorem dL_law_472 : decode cL_law 472 = .ok (.aload_n 2, 1) := dd_all DL_law_280_ok 8 rfl
theorem dL_law_473 : decode cL_law 473 = .ok (.invokevirtual 68, 3) := dd_all DL_law_280_ok 9 rfl
theorem dL_law_476 : decode cL_law 476 = .ok (.if_icmp .eq 139, 3) := dd_all DL_law_280_ok 10 rfl
theorem dL_law_479 : decode cL_law 479 = .ok (.iconst 0, 1) := dd_all DL_law_280_ok 11 rfl
theorem dL_law_480 : decode cL_law 480 = .ok (.ireturn, 1) := dd_all DL_law_280_ok 12 rfl
theorem dL_law_481 : decode cL_law 481 = .ok (.aload_n 1, 1) := dd_all DL_law_280_ok 13 rfl
theorem dL_law_482 : decode cL_law 482 = .ok (.invokevirtual 69, 3) := dd_all DL_law_280_ok 14 rfl
theorem dL_law_485 : decode cL_law 485 = .ok (.aload_n 2, 1) := dd_all DL_law_280_ok 15 rfl
theorem dL_law_486 : decode cL_law 486 = .ok (.invokevirtual 72, 3) := dd_all DL_law_280_ok 16 rfl
theorem dL_law_489 : decode cL_law 489 = .ok (.if_icmp .eq 126, 3) := dd_all DL_law_280_ok 17 rfl
theorem dL_law_492 : decode cL_law 492 = .ok (.iconst 0, 1) := dd_all DL_law_280_ok 18 rfl
theorem dL_law_493 : decode cL_law 493 = .ok (.ireturn, 1) := dd_all DL_law_280_ok 19 rfl
theorem dL_law_494 : decode cL_law 494 = .ok (.aload_n 1, 1) := dd_all DL_law_280_ok 20 rfl
theorem dL_law_495 : decode cL_law 495 = .ok (.invokevirtual 73, 3) := dd_all DL_law_280_ok 21 rfl
theorem dL_law_498 : decode cL_law 498 = .ok (.aload_n 2, 1) := dd_all DL_law_280_ok 22 rfl
theorem dL_law_499 : decode cL_law 499 = .ok (.invokevirtual 76, 3) := dd_all DL_law_280_ok 23 rfl
theorem dL_law_502 : decode cL_law 502 = .ok (.if_icmp .eq 113, 3) := dd_all DL_law_280_ok 24 rfl
theorem dL_law_505 : decode cL_law 505 = .ok (.iconst 0, 1) := dd_all DL_law_280_ok 25 rfl
theorem dL_law_506 : decode cL_law 506 = .ok (.ireturn, 1) := dd_all DL_law_280_ok 26 rfl
theorem dL_law_507 : decode cL_law 507 = .ok (.aload_n 1, 1) := dd_all DL_law_280_ok 27 rfl
theorem dL_law_508 : decode cL_law 508 = .ok (.aload_n 0, 1) := dd_all DL_law_280_ok 28 rfl
theorem dL_law_509 : decode cL_law 509 = .ok (.iload_n 3, 1) := dd_all DL_law_280_ok 29 rfl
theorem dL_law_510 : decode cL_law 510 = .ok (.iconst 1, 1) := dd_all DL_law_280_ok 30 rfl
theorem dL_law_511 : decode cL_law 511 = .ok (.iadd, 1) := dd_all DL_law_280_ok 31 rfl
theorem dL_law_512 : decode cL_law 512 = .ok (.iaload, 1) := dd_all DL_law_280_ok 32 rfl
theorem dL_law_513 : decode cL_law 513 = .ok (.invokevirtual 77, 3) := dd_all DL_law_280_ok 33 rfl
theorem dL_law_516 : decode cL_law 516 = .ok (.aload_n 2, 1) := dd_all DL_law_280_ok 34 rfl
theorem dL_law_517 : decode cL_law 517 = .ok (.aload_n 0, 1) := dd_all DL_law_280_ok 35 rfl
theorem dL_law_518 : decode cL_law 518 = .ok (.iload_n 3, 1) := dd_all DL_law_280_ok 36 rfl
theorem dL_law_519 : decode cL_law 519 = .ok (.iconst 1, 1) := dd_all DL_law_280_ok 37 rfl
theorem dL_law_520 : decode cL_law 520 = .ok (.iadd, 1) := dd_all DL_law_280_ok 38 rfl
theorem dL_law_521 : decode cL_law 521 = .ok (.iaload, 1) := dd_all DL_law_280_ok 39 rfl
def DL_law_320 : List (Nat × Instr × Nat) := [(522, .invokevirtual 80, 3), (525, .if_icmp .eq 90, 3), (528, .iconst 0, 1), (529, .ireturn, 1), (530, .aload_n 1, 1), (531, .invokevirtual 81, 3), (534, .aload_n 2, 1), (535, .invokevirtual 84, 3), (538, .if_icmp .eq 77, 3), (541, .iconst 0, 1), (542, .ireturn, 1), (543, .aload_n 1, 1), (544, .aload_n 0, 1), (545, .iload_n 3, 1), (546, .iconst 1, 1), (547, .iadd, 1), (548, .iaload, 1), (549, .invokevirtual 85, 3), (552, .aload_n 2, 1), (553, .aload_n 0, 1), (554, .iload_n 3, 1), (555, .iconst 1, 1), (556, .iadd, 1), (557, .iaload, 1), (558, .invokevirtual 88, 3), (561, .if_icmp .eq 54, 3), (564, .iconst 0, 1), (565, .ireturn, 1), (566, .aload_n 1, 1), (567, .invokevirtual 89, 3), (570, .aload_n 2, 1), (571, .invokevirtual 92, 3), (574, .if_icmp .eq 41, 3), (577, .iconst 0, 1), (578, .ireturn, 1), (579, .aload_n 1, 1), (580, .invokevirtual 93, 3), (583, .aload_n 2, 1), (584, .invokevirtual 96, 3), (587, .if_icmp .eq 28, 3)]
theorem DL_law_320_ok : ∀ q ∈ DL_law_320, decode cL_law q.1 = .ok (q.2.1, q.2.2) := by decide +kernel
theorem dL_law_522 : decode cL_law 522 = .ok (.invokevirtual 80, 3) := dd_all DL_law_320_ok 0 rfl
theorem dL_law_525 : decode cL_law 525 = .ok (.if_icmp .eq 90, 3) := dd_all DL_law_320_ok 1 rfl
theorem dL_law_528 : decode cL_law 528 = .ok (.iconst 0, 1) := dd_all DL_law_320_ok 2 rfl
theorem dL_law_529 : decode cL_law 529 = .ok (.ireturn, 1) := dd_all DL_law_320_ok 3 rfl
theorem dL_law_530 : decode cL_law 530 = .ok (.aload_n 1, 1) := dd_all DL_law_320_ok 4 rfl
theorem dL_law_531 : decode cL_law 531 = .ok (.invokevirtual 81, 3) := dd_all DL_law_320_ok 5 rfl
theorem dL_law_534 : decode cL_law 534 = .ok (.aload_n 2, 1) := dd_all DL_law_320_ok 6 rfl
theorem dL_law_535 : decode cL_law 535 = .ok (.invokevirtual 84, 3) := dd_all DL_law_320_ok 7 rfl
theorem dL_law_538 : decode cL_law 538 = .ok (.if_icmp .eq 77, 3) := dd_all DL_law_320_ok 8 rfl
theorem dL_law_541 : decode cL_law 541 = .ok (.iconst 0, 1) := dd_all DL_law_320_ok 9 rfl
theorem dL_law_542 : decode cL_law 542 = .ok (.ireturn, 1) := dd_all DL_law_320_ok 10 rfl
theorem dL_law_543 : decode cL_law 543 = .ok (.aload_n 1, 1) := dd_all DL_law_320_ok 11 rfl
theorem dL_law_544 : decode cL_law 544 = .ok (.aload_n 0, 1) := dd_all DL_law_320_ok 12 rfl
theorem dL_law_545 : decode cL_law 545 = .ok (.iload_n 3, 1) := dd_all DL_law_320_ok 13 rfl
theorem dL_law_546 : decode cL_law 546 = .ok (.iconst 1, 1) := dd_all DL_law_320_ok 14 rfl
theorem dL_law_547 : decode cL_law 547 = .ok (.iadd, 1) := dd_all DL_law_320_ok 15 rfl
theorem dL_law_548 : decode cL_law 548 = .ok (.iaload, 1) := dd_all DL_law_320_ok 16 rfl
theorem dL_law_549 : decode cL_law 549 = .ok (.invokevirtual 85, 3) := dd_all DL_law_320_ok 17 rfl
theorem dL_law_552 : decode cL_law 552 = .ok (.aload_n 2, 1) := dd_all DL_law_320_ok 18 rfl
theorem dL_law_553 : decode cL_law 553 = .ok (.aload_n 0, 1) := dd_all DL_law_320_ok 19 rfl
theorem dL_law_554 : decode cL_law 554 = .ok (.iload_n 3, 1) := dd_all DL_law_320_ok 20 rfl
theorem dL_law_555 : decode cL_law 555 = .ok (.iconst 1, 1) := dd_all DL_law_320_ok 21 rfl
theorem dL_law_556 : decode cL_law 556 = .ok (.iadd, 1) := dd_all DL_law_320_ok 22 rfl
theorem dL_law_557 : decode cL_law 557 = .ok (.iaload, 1) := dd_all DL_law_320_ok 23 rfl
theorem dL_law_558 : decode cL_law 558 = .ok (.invokevirtual 88, 3) := dd_all DL_law_320_ok 24 rfl
theorem dL_law_561 : decode cL_law 561 = .ok (.if_icmp .eq 54, 3) := dd_all DL_law_320_ok 25 rfl
theorem dL_law_564 : decode cL_law 564 = .ok (.iconst 0, 1) := dd_all DL_law_320_ok 26 rfl
theorem dL_law_565 : decode cL_law 565 = .ok (.ireturn, 1) := dd_all DL_law_320_ok 27 rfl
theorem dL_law_566 : decode cL_law 566 = .ok (.aload_n 1, 1) := dd_all DL_law_320_ok 28 rfl
theorem dL_law_567 : decode cL_law 567 = .ok (.invokevirtual 89, 3) := dd_all DL_law_320_ok 29 rfl
theorem dL_law_570 : decode cL_law 570 = .ok (.aload_n 2, 1) := dd_all DL_law_320_ok 30 rfl
theorem dL_law_571 : decode cL_law 571 = .ok (.invokevirtual 92, 3) := dd_all DL_law_320_ok 31 rfl
theorem dL_law_574 : decode cL_law 574 = .ok (.if_icmp .eq 41, 3) := dd_all DL_law_320_ok 32 rfl
theorem dL_law_577 : decode cL_law 577 = .ok (.iconst 0, 1) := dd_all DL_law_320_ok 33 rfl
theorem dL_law_578 : decode cL_law 578 = .ok (.ireturn, 1) := dd_all DL_law_320_ok 34 rfl
theorem dL_law_579 : decode cL_law 579 = .ok (.aload_n 1, 1) := dd_all DL_law_320_ok 35 rfl
theorem dL_law_580 : decode cL_law 580 = .ok (.invokevirtual 93, 3) := dd_all DL_law_320_ok 36 rfl
theorem dL_law_583 : decode cL_law 583 = .ok (.aload_n 2, 1) := dd_all DL_law_320_ok 37 rfl
theorem dL_law_584 : decode cL_law 584 = .ok (.invokevirtual 96, 3) := dd_all DL_law_320_ok 38 rfl
theorem dL_law_587 : decode cL_law 587 = .ok (.if_icmp .eq 28, 3) := dd_all DL_law_320_ok 39 rfl
def DL_law_360 : List (Nat × Instr × Nat) := [(590, .iconst 0, 1), (591, .ireturn, 1), (592, .aload_n 1, 1), (593, .aload_n 0, 1), (594, .iload_n 3, 1), (595, .iconst 1, 1), (596, .iadd, 1), (597, .iaload, 1), (598, .invokevirtual 97, 3), (601, .aload_n 2, 1), (602, .aload_n 0, 1), (603, .iload_n 3, 1), (604, .iconst 1, 1), (605, .iadd, 1), (606, .iaload, 1), (607, .invokevirtual 100, 3), (610, .if_icmp .eq 5, 3), (613, .iconst 0, 1), (614, .ireturn, 1), (615, .iinc 3 4, 3), (618, .goto (-600), 3), (621, .iconst 1, 1), (622, .ireturn, 1)]
theorem DL_law_360_ok : ∀ q ∈ DL_law_360, decode cL_law q.1 = .ok (q.2.1, q.2.2) := by decide +kernel
theorem dL_law_590 : decode cL_law 590 = .ok (.iconst 0, 1) := dd_all DL_law_360_ok 0 rfl
theorem dL_law_591 : decode cL_law 591 = .ok (.ireturn, 1) := dd_all DL_law_360_ok 1 rfl
theorem dL_law_592 : decode cL_law 592 = .ok (.aload_n 1, 1) := dd_all DL_law_360_ok 2 rfl
theorem dL_law_593 : decode cL_law 593 = .ok (.aload_n 0, 1) := dd_all DL_law_360_ok 3 rfl
theorem dL_law_594 : decode cL_law 594 = .ok (.iload_n 3, 1) := dd_all DL_law_360_ok 4 rfl
theorem dL_law_595 : decode cL_law 595 = .ok (.iconst 1, 1) := dd_all DL_law_360_ok 5 rfl
theorem dL_law_596 : decode cL_law 596 = .ok (.iadd, 1) := dd_all DL_law_360_ok 6 rfl
theorem dL_law_597 : decode cL_law 597 = .ok (.iaload, 1) := dd_all DL_law_360_ok 7 rfl
theorem dL_law_598 : decode cL_law 598 = .ok (.invokevirtual 97, 3) := dd_all DL_law_360_ok 8 rfl
theorem dL_law_601 : decode cL_law 601 = .ok (.aload_n 2, 1) := dd_all DL_law_360_ok 9 rfl
theorem dL_law_602 : decode cL_law 602 = .ok (.aload_n 0, 1) := dd_all DL_law_360_ok 10 rfl
theorem dL_law_603 : decode cL_law 603 = .ok (.iload_n 3, 1) := dd_all DL_law_360_ok 11 rfl
theorem dL_law_604 : decode cL_law 604 = .ok (.iconst 1, 1) := dd_all DL_law_360_ok 12 rfl
theorem dL_law_605 : decode cL_law 605 = .ok (.iadd, 1) := dd_all DL_law_360_ok 13 rfl
theorem dL_law_606 : decode cL_law 606 = .ok (.iaload, 1) := dd_all DL_law_360_ok 14 rfl
theorem dL_law_607 : decode cL_law 607 = .ok (.invokevirtual 100, 3) := dd_all DL_law_360_ok 15 rfl
theorem dL_law_610 : decode cL_law 610 = .ok (.if_icmp .eq 5, 3) := dd_all DL_law_360_ok 16 rfl
theorem dL_law_613 : decode cL_law 613 = .ok (.iconst 0, 1) := dd_all DL_law_360_ok 17 rfl
theorem dL_law_614 : decode cL_law 614 = .ok (.ireturn, 1) := dd_all DL_law_360_ok 18 rfl
theorem dL_law_615 : decode cL_law 615 = .ok (.iinc 3 4, 3) := dd_all DL_law_360_ok 19 rfl
theorem dL_law_618 : decode cL_law 618 = .ok (.goto (-600), 3) := dd_all DL_law_360_ok 20 rfl
theorem dL_law_621 : decode cL_law 621 = .ok (.iconst 1, 1) := dd_all DL_law_360_ok 21 rfl
theorem dL_law_622 : decode cL_law 622 = .ok (.ireturn, 1) := dd_all DL_law_360_ok 22 rfl
def DX0_init_0 : List (Nat × Instr × Nat) := [(0, .aload_n 0, 1), (1, .invokespecial 3, 3), (4, .aload_n 0, 1), (5, .new 9, 3), (8, .dup, 1), (9, .invokespecial 11, 3), (12, .putfield 12, 3), (15, .aload_n 0, 1), (16, .new 18, 3), (19, .dup, 1), (20, .bipush 8, 2), (22, .invokespecial 20, 3), (25, .putfield 23, 3), (28, .aload_n 0, 1), (29, .new 18, 3), (32, .dup, 1), (33, .iconst 4, 1), (34, .invokespecial 20, 3), (37, .putfield 27, 3), (40, .aload_n 0, 1), (41, .new 18, 3), (44, .dup, 1), (45, .bipush 6, 2), (47, .invokespecial 20, 3), (50, .putfield 30, 3), (53, .aload_n 0, 1), (54, .iconst 3, 1), (55, .newarray .int, 2), (57, .putfield 33, 3), (60, .aload_n 0, 1), (61, .new 37, 3), (64, .dup, 1), (65, .ldc 39, 2), (67, .invokespecial 41, 3), (70, .putfield 44, 3), (73, .getstatic 48, 3), (76, .aload_n 0, 1), (77, .getfield 33, 3), (80, .iconst 3, 1), (81, .invokestatic 51, 3)]
theorem DX0_init_0_ok : ∀ q ∈ DX0_init_0, decode cX0_init q.1 = .ok (q.2.1, q.2.2) := by decide +kernel
theorem dX0_init_0 : decode cX0_init 0 = .ok (.aload_n 0, 1) := dd_all DX0_init_0_ok 0 rfl
theorem dX0_init_1 : decode cX0_init 1 = .ok (.invokespecial 3, 3) := dd_all DX0_init_0_ok 1 rfl
theorem dX0_init_4 : decode cX0_init 4 = .ok (.aload_n 0, 1) := dd_all DX0_init_0_ok 2 rfl
theorem dX0_init_5 : decode cX0_init 5 = .ok (.new 9, 3) := dd_all DX0_init_0_ok 3 rfl
theorem dX0_init_8 : decode cX0_init 8 = .ok (.dup, 1) := dd_all DX0_init_0_ok 4 rfl
theorem dX0_init_9 : decode cX0_init 9 = .ok (.invokespecial 11, 3) := dd_all DX0_init_0_ok 5 rfl
theorem dX0_init_12 : decode cX0_init 12 = .ok (.putfield 12, 3) := dd_all DX0_init_0_ok 6 rfl
theorem dX0_init_15 : decode cX0_init 15 = .ok (.aload_n 0, 1) := dd_all DX0_init_0_ok 7 rfl
theorem dX0_init_16 : decode cX0_init 16 = .ok (.new 18, 3) := dd_all DX0_init_0_ok 8 rfl
theorem dX0_init_19 : decode cX0_init 19 = .ok (.dup, 1) := dd_all DX0_init_0_ok 9 rfl
theorem dX0_init_20 : decode cX0_init 20 = .ok (.bipush 8, 2) := dd_all DX0_init_0_ok 10 rfl
theorem dX0_init_22 : decode cX0_init 22 = .ok (.invokespecial 20, 3) := dd_all DX0_init_0_ok 11 rfl
theorem dX0_init_25 : decode cX0_init 25 = .ok (.putfield 23, 3) := dd_all DX0_init_0_ok 12 rfl
theorem dX0_init_28 : decode cX0_init 28 = .ok (.aload_n 0, 1) := dd_all DX0_init_0_ok 13 rfl
theorem dX0_init_29 : decode cX0_init 29 = .ok (.new 18, 3) := dd_all DX0_init_0_ok 14 rfl
theorem dX0_init_32 : decode cX0_init 32 = .ok (.dup, 1) := dd_all DX0_init_0_ok 15 rfl
theorem dX0_init_33 : decode cX0_init 33 = .ok (.iconst 4, 1) := dd_all DX0_init_0_ok 16 rfl
theorem dX0_init_34 : decode cX0_init 34 = .ok (.invokespecial 20, 3) := dd_all DX0_init_0_ok 17 rfl
theorem dX0_init_37 : decode cX0_init 37 = .ok (.putfield 27, 3) := dd_all DX0_init_0_ok 18 rfl
theorem dX0_init_40 : decode cX0_init 40 = .ok (.aload_n 0, 1) := dd_all DX0_init_0_ok 19 rfl
theorem dX0_init_41 : decode cX0_init 41 = .ok (.new 18, 3) := dd_all DX0_init_0_ok 20 rfl
theorem dX0_init_44 : decode cX0_init 44 = .ok (.dup, 1) := dd_all DX0_init_0_ok 21 rfl
theorem dX0_init_45 : decode cX0_init 45 = .ok (.bipush 6, 2) := dd_all DX0_init_0_ok 22 rfl
theorem dX0_init_47 : decode cX0_init 47 = .ok (.invokespecial 20, 3) := dd_all DX0_init_0_ok 23 rfl
theorem dX0_init_50 : decode cX0_init 50 = .ok (.putfield 30, 3) := dd_all DX0_init_0_ok 24 rfl
theorem dX0_init_53 : decode cX0_init 53 = .ok (.aload_n 0, 1) := dd_all DX0_init_0_ok 25 rfl
theorem dX0_init_54 : decode cX0_init 54 = .ok (.iconst 3, 1) := dd_all DX0_init_0_ok 26 rfl
theorem dX0_init_55 : decode cX0_init 55 = .ok (.newarray .int, 2) := dd_all DX0_init_0_ok 27 rfl
theorem dX0_init_57 : decode cX0_init 57 = .ok (.putfield 33, 3) := dd_all DX0_init_0_ok 28 rfl
theorem dX0_init_60 : decode cX0_init 60 = .ok (.aload_n 0, 1) := dd_all DX0_init_0_ok 29 rfl
theorem dX0_init_61 : decode cX0_init 61 = .ok (.new 37, 3) := dd_all DX0_init_0_ok 30 rfl
theorem dX0_init_64 : decode cX0_init 64 = .ok (.dup, 1) := dd_all DX0_init_0_ok 31 rfl
theorem dX0_init_65 : decode cX0_init 65 = .ok (.ldc 39, 2) := dd_all DX0_init_0_ok 32 rfl
theorem dX0_init_67 : decode cX0_init 67 = .ok (.invokespecial 41, 3) := dd_all DX0_init_0_ok 33 rfl
theorem dX0_init_70 : decode cX0_init 70 = .ok (.putfield 44, 3) := dd_all DX0_init_0_ok 34 rfl
theorem dX0_init_73 : decode cX0_init 73 = .ok (.getstatic 48, 3) := dd_all DX0_init_0_ok 35 rfl
theorem dX0_init_76 : decode cX0_init 76 = .ok (.aload_n 0, 1) := dd_all DX0_init_0_ok 36 rfl
theorem dX0_init_77 : decode cX0_init 77 = .ok (.getfield 33, 3) := dd_all DX0_init_0_ok 37 rfl
theorem dX0_init_80 : decode cX0_init 80 = .ok (.iconst 3, 1) := dd_all DX0_init_0_ok 38 rfl
theorem dX0_init_81 : decode cX0_init 81 = .ok (.invokestatic 51, 3) := dd_all DX0_init_0_ok 39 rfl
def DX0_init_40 : List (Nat × Instr × Nat) := [(84, .return_, 1)]
theorem DX0_init_40_ok : ∀ q ∈ DX0_init_40, decode cX0_init q.1 = .ok (q.2.1, q.2.2) := by decide +kernel
theorem dX0_init_84 : decode cX0_init 84 = .ok (.return_, 1) := dd_all DX0_init_40_ok 0 rfl
def DX0_copyFrom_0 : List (Nat × Instr × Nat) := [(0, .aload_n 0, 1), (1, .getfield 12, 3), (4, .aload_n 1, 1), (5, .getfield 12, 3), (8, .invokevirtual 55, 3), (11, .aload_n 0, 1), (12, .getfield 23, 3), (15, .aload_n 1, 1), (16, .getfield 23, 3), (19, .invokevirtual 59, 3), (22, .aload_n 0, 1), (23, .getfield 27, 3), (26, .aload_n 1, 1), (27, .getfield 27, 3), (30, .invokevirtual 59, 3), (33, .aload_n 0, 1), (34, .getfield 30, 3), (37, .aload_n 1, 1), (38, .getfield 30, 3), (41, .invokevirtual 59, 3), (44, .aload_n 1, 1), (45, .getfield 33, 3), (48, .aload_n 0, 1), (49, .getfield 33, 3), (52, .iconst 3, 1), (53, .invokestatic 51, 3), (56, .aload_n 0, 1), (57, .getfield 44, 3), (60, .aload_n 1, 1), (61, .getfield 44, 3), (64, .invokevirtual 62, 3), (67, .aload_n 0, 1), (68, .aload_n 1, 1), (69, .getfield 65, 3), (72, .putfield 65, 3), (75, .aload_n 0, 1), (76, .aload_n 1, 1), (77, .getfield 69, 3), (80, .putfield 69, 3), (83, .aload_n 0, 1)]
theorem DX0_copyFrom_0_ok : ∀ q ∈ DX0_copyFrom_0, decode cX0_copyFrom q.1 = .ok (q.2.1, q.2.2) := by decide +kernel
theorem dX0_copyFrom_0 : decode cX0_copyFrom 0 = .ok (.aload_n 0, 1) := dd_all DX0_copyFrom_0_ok 0 rfl
theorem dX0_copyFrom_1 : decode cX0_copyFrom 1 = .ok (.getfield 12, 3) := dd_all DX0_copyFrom_0_ok 1 rfl
theorem dX0_copyFrom_4 : decode cX0_copyFrom 4 = .ok (.aload_n 1, 1) := dd_all DX0_copyFrom_0_ok 2 rfl
theorem dX0_copyFrom_5 : decode cX0_copyFrom 5 = .ok (.getfield 12, 3) := dd_all DX0_copyFrom_0_ok 3 rfl
theorem dX0_copyFrom_8 : decode cX0_copyFrom 8 = .ok (.invokevirtual 55, 3) := dd_all DX0_copyFrom_0_ok 4 rfl
theorem dX0_copyFrom_11 : decode cX0_copyFrom 11 = .ok (.aload_n 0, 1) := dd_all DX0_copyFrom_0_ok 5 rfl
theorem dX0_copyFrom_12 : decode cX0_copyFrom 12 = .ok (.getfield 23, 3) := dd_all DX0_copyFrom_0_ok 6 rfl
theorem dX0_copyFrom_15 : decode cX0_copyFrom 15 = .ok (.aload_n 1, 1) := dd_all DX0_copyFrom_0_ok 7 rfl
theorem dX0_copyFrom_16 : decode cX0_copyFrom 16 = .ok (.getfield 23, 3) := dd_all DX0_copyFrom_0_ok 8 rfl
theorem dX0_copyFrom_19 : decode cX0_copyFrom 19 = .ok (.invokevirtual 59, 3) := dd_all DX0_copyFrom_0_ok 9 rfl
theorem dX0_copyFrom_22 : decode cX0_copyFrom 22 = .ok (.aload_n 0, 1) := dd_all DX0_copyFrom_0_ok 10 rfl
theorem dX0_copyFrom_23 : decode cX0_copyFrom 23 = .ok (.getfield 27, 3) := dd_all DX0_copyFrom_0_ok 11 rfl
theorem dX0_copyFrom_26 : decode cX0_copyFrom 26 = .ok (.aload_n 1, 1) := dd_all DX0_copyFrom_0_ok 12 rfl
theorem dX0_copyFrom_27 : decode cX0_copyFrom 27 = .ok (.getfield 27, 3) := dd_all DX0_copyFrom_0_ok 13 rfl
theorem dX0_copyFrom_30 : decode cX0_copyFrom 30 = .ok (.invokevirtual 59, 3) := dd_all DX0_copyFrom_0_ok 14 rfl
theorem dX0_copyFrom_33 : decode cX0_copyFrom 33 = .ok (.aload_n 0, 1) := dd_all DX0_copyFrom_0_ok 15 rfl
theorem dX0_copyFrom_34 : decode cX0_copyFrom 34 = .ok (.getfield 30, 3) := dd_all DX0_copyFrom_0_ok 16 rfl
theorem dX0_copyFrom_37 : decode cX0_copyFrom 37 = .ok (.aload_n 1, 1) := dd_all DX0_copyFrom_0_ok 17 rfl
theorem dX0_copyFrom_38 : decode cX0_copyFrom 38 = .ok (.getfield 30, 3) := dd_all DX0_copyFrom_0_ok 18 rfl
theorem dX0_copyFrom_41 : decode cX0_copyFrom 41 = .ok (.invokevirtual 59, 3) := dd_all DX0_copyFrom_0_ok 19 rfl
theorem dX0_copyFrom_44 : decode cX0_copyFrom 44 = .ok (.aload_n 1, 1) := dd_all DX0_copyFrom_0_ok 20 rfl
theorem dX0_copyFrom_45 : decode cX0_copyFrom 45 = .ok (.getfield 33, 3) := dd_all DX0_copyFrom_0_ok 21 rfl
theorem dX0_copyFrom_48 : decode cX0_copyFrom 48 = .ok (.aload_n 0, 1) := dd_all DX0_copyFrom_0_ok 22 rfl
theorem dX0_copyFrom_49 : decode cX0_copyFrom 49 = .ok (.getfield 33, 3) := dd_all DX0_copyFrom_0_ok 23 rfl
theorem dX0_copyFrom_52 : decode cX0_copyFrom 52 = .ok (.iconst 3, 1) := dd_all DX0_copyFrom_0_ok 24 rfl
theorem dX0_copyFrom_53 : decode cX0_copyFrom 53 = .ok (.invokestatic 51, 3) := dd_all DX0_copyFrom_0_ok 25 rfl
theorem dX0_copyFrom_56 : decode cX0_copyFrom 56 = .ok (.aload_n 0, 1) := dd_all DX0_copyFrom_0_ok 26 rfl
theorem dX0_copyFrom_57 : decode cX0_copyFrom 57 = .ok (.getfield 44, 3) := dd_all DX0_copyFrom_0_ok 27 rfl
theorem dX0_copyFrom_60 : decode cX0_copyFrom 60 = .ok (.aload_n 1, 1) := dd_all DX0_copyFrom_0_ok 28 rfl
theorem dX0_copyFrom_61 : decode cX0_copyFrom 61 = .ok (.getfield 44, 3) := dd_all DX0_copyFrom_0_ok 29 rfl
theorem dX0_copyFrom_64 : decode cX0_copyFrom 64 = .ok (.invokevirtual 62, 3) := dd_all DX0_copyFrom_0_ok 30 rfl
theorem dX0_copyFrom_67 : decode cX0_copyFrom 67 = .ok (.aload_n 0, 1) := dd_all DX0_copyFrom_0_ok 31 rfl
theorem dX0_copyFrom_68 : decode cX0_copyFrom 68 = .ok (.aload_n 1, 1) := dd_all DX0_copyFrom_0_ok 32 rfl
theorem dX0_copyFrom_69 : decode cX0_copyFrom 69 = .ok (.getfield 65, 3) := dd_all DX0_copyFrom_0_ok 33 rfl
theorem dX0_copyFrom_72 : decode cX0_copyFrom 72 = .ok (.putfield 65, 3) := dd_all DX0_copyFrom_0_ok 34 rfl
theorem dX0_copyFrom_75 : decode cX0_copyFrom 75 = .ok (.aload_n 0, 1) := dd_all DX0_copyFrom_0_ok 35 rfl
theorem dX0_copyFrom_76 : decode cX0_copyFrom 76 = .ok (.aload_n 1, 1) := dd_all DX0_copyFrom_0_ok 36 rfl
theorem dX0_copyFrom_77 : decode cX0_copyFrom 77 = .ok (.getfield 69, 3) := dd_all DX0_copyFrom_0_ok 37 rfl
theorem dX0_copyFrom_80 : decode cX0_copyFrom 80 = .ok (.putfield 69, 3) := dd_all DX0_copyFrom_0_ok 38 rfl
theorem dX0_copyFrom_83 : decode cX0_copyFrom 83 = .ok (.aload_n 0, 1) := dd_all DX0_copyFrom_0_ok 39 rfl
def DX0_copyFrom_40 : List (Nat × Instr × Nat) := [(84, .aload_n 1, 1), (85, .getfield 72, 3), (88, .putfield 72, 3), (91, .aload_n 0, 1), (92, .aload_n 1, 1), (93, .getfield 75, 3), (96, .putfield 75, 3), (99, .return_, 1)]
theorem DX0_copyFrom_40_ok : ∀ q ∈ DX0_copyFrom_40, decode cX0_copyFrom q.1 = .ok (q.2.1, q.2.2) := by decide +kernel
theorem dX0_copyFrom_84 : decode cX0_copyFrom 84 = .ok (.aload_n 1, 1) := dd_all DX0_copyFrom_40_ok 0 rfl
theorem dX0_copyFrom_85 : decode cX0_copyFrom 85 = .ok (.getfield 72, 3) := dd_all DX0_copyFrom_40_ok 1 rfl
theorem dX0_copyFrom_88 : decode cX0_copyFrom 88 = .ok (.putfield 72, 3) := dd_all DX0_copyFrom_40_ok 2 rfl
theorem dX0_copyFrom_91 : decode cX0_copyFrom 91 = .ok (.aload_n 0, 1) := dd_all DX0_copyFrom_40_ok 3 rfl
theorem dX0_copyFrom_92 : decode cX0_copyFrom 92 = .ok (.aload_n 1, 1) := dd_all DX0_copyFrom_40_ok 4 rfl
theorem dX0_copyFrom_93 : decode cX0_copyFrom 93 = .ok (.getfield 75, 3) := dd_all DX0_copyFrom_40_ok 5 rfl
theorem dX0_copyFrom_96 : decode cX0_copyFrom 96 = .ok (.putfield 75, 3) := dd_all DX0_copyFrom_40_ok 6 rfl
theorem dX0_copyFrom_99 : decode cX0_copyFrom 99 = .ok (.return_, 1) := dd_all DX0_copyFrom_40_ok 7 rfl
def DX0_firstOf_0 : List (Nat × Instr × Nat) := [(0, .iconst 0, 1), (1, .istore 4, 2), (3, .iload 4, 2), (5, .aload_n 1, 1), (6, .getfield 78, 3), (9, .if_icmp .ge 34, 3), (12, .aload_n 1, 1), (13, .iload 4, 2), (15, .invokevirtual 81, 3), (18, .istore 5, 2), (20, .aload_n 0, 1), (21, .getfield 12, 3), (24, .iload 5, 2), (26, .iload_n 2, 1), (27, .iload_n 3, 1), (28, .invokevirtual 85, 3), (31, .ifCond .eq 6, 3), (34, .iload 5, 2), (36, .ireturn, 1), (37, .iinc 4 1, 3), (40, .goto (-37), 3), (43, .iconst (-1), 1), (44, .ireturn, 1)]
theorem DX0_firstOf_0_ok : ∀ q ∈ DX0_firstOf_0, decode cX0_firstOf q.1 = .ok (q.2.1, q.2.2) := by decide +kernel
theorem dX0_firstOf_0 : decode cX0_firstOf 0 = .ok (.iconst 0, 1) := dd_all DX0_firstOf_0_ok 0 rfl
theorem dX0_firstOf_1 : decode cX0_firstOf 1 = .ok (.istore 4, 2) := dd_all DX0_firstOf_0_ok 1 rfl
theorem dX0_firstOf_3 : decode cX0_firstOf 3 = .ok (.iload 4, 2) := dd_all DX0_firstOf_0_ok 2 rfl
theorem dX0_firstOf_5 : decode cX0_firstOf 5 = .ok (.aload_n 1, 1) := dd_all DX0_firstOf_0_ok 3 rfl
theorem dX0_firstOf_6 : decode cX0_firstOf 6 = .ok (.getfield 78, 3) := dd_all DX0_firstOf_0_ok 4 rfl
theorem dX0_firstOf_9 : decode cX0_firstOf 9 = .ok (.if_icmp .ge 34, 3) := dd_all DX0_firstOf_0_ok 5 rfl
theorem dX0_firstOf_12 : decode cX0_firstOf 12 = .ok (.aload_n 1, 1) := dd_all DX0_firstOf_0_ok 6 rfl
theorem dX0_firstOf_13 : decode cX0_firstOf 13 = .ok (.iload 4, 2) := dd_all DX0_firstOf_0_ok 7 rfl
theorem dX0_firstOf_15 : decode cX0_firstOf 15 = .ok (.invokevirtual 81, 3) := dd_all DX0_firstOf_0_ok 8 rfl
theorem dX0_firstOf_18 : decode cX0_firstOf 18 = .ok (.istore 5, 2) := dd_all DX0_firstOf_0_ok 9 rfl
theorem dX0_firstOf_20 : decode cX0_firstOf 20 = .ok (.aload_n 0, 1) := dd_all DX0_firstOf_0_ok 10 rfl
theorem dX0_firstOf_21 : decode cX0_firstOf 21 = .ok (.getfield 12, 3) := dd_all DX0_firstOf_0_ok 11 rfl
theorem dX0_firstOf_24 : decode cX0_firstOf 24 = .ok (.iload 5, 2) := dd_all DX0_firstOf_0_ok 12 rfl
theorem dX0_firstOf_26 : decode cX0_firstOf 26 = .ok (.iload_n 2, 1) := dd_all DX0_firstOf_0_ok 13 rfl
theorem dX0_firstOf_27 : decode cX0_firstOf 27 = .ok (.iload_n 3, 1) := dd_all DX0_firstOf_0_ok 14 rfl
theorem dX0_firstOf_28 : decode cX0_firstOf 28 = .ok (.invokevirtual 85, 3) := dd_all DX0_firstOf_0_ok 15 rfl
theorem dX0_firstOf_31 : decode cX0_firstOf 31 = .ok (.ifCond .eq 6, 3) := dd_all DX0_firstOf_0_ok 16 rfl
theorem dX0_firstOf_34 : decode cX0_firstOf 34 = .ok (.iload 5, 2) := dd_all DX0_firstOf_0_ok 17 rfl
theorem dX0_firstOf_36 : decode cX0_firstOf 36 = .ok (.ireturn, 1) := dd_all DX0_firstOf_0_ok 18 rfl
theorem dX0_firstOf_37 : decode cX0_firstOf 37 = .ok (.iinc 4 1, 3) := dd_all DX0_firstOf_0_ok 19 rfl
theorem dX0_firstOf_40 : decode cX0_firstOf 40 = .ok (.goto (-37), 3) := dd_all DX0_firstOf_0_ok 20 rfl
theorem dX0_firstOf_43 : decode cX0_firstOf 43 = .ok (.iconst (-1), 1) := dd_all DX0_firstOf_0_ok 21 rfl
theorem dX0_firstOf_44 : decode cX0_firstOf 44 = .ok (.ireturn, 1) := dd_all DX0_firstOf_0_ok 22 rfl
def DX0_voiceOf_0 : List (Nat × Instr × Nat) := [(0, .aload_n 0, 1), (1, .aload_n 0, 1), (2, .getfield 23, 3), (5, .iload_n 1, 1), (6, .iload_n 2, 1), (7, .invokevirtual 89, 3), (10, .ireturn, 1)]
theorem DX0_voiceOf_0_ok : ∀ q ∈ DX0_voiceOf_0, decode cX0_voiceOf q.1 = .ok (q.2.1, q.2.2) := by decide +kernel
theorem dX0_voiceOf_0 : decode cX0_voiceOf 0 = .ok (.aload_n 0, 1) := dd_all DX0_voiceOf_0_ok 0 rfl
theorem dX0_voiceOf_1 : decode cX0_voiceOf 1 = .ok (.aload_n 0, 1) := dd_all DX0_voiceOf_0_ok 1 rfl
theorem dX0_voiceOf_2 : decode cX0_voiceOf 2 = .ok (.getfield 23, 3) := dd_all DX0_voiceOf_0_ok 2 rfl
theorem dX0_voiceOf_5 : decode cX0_voiceOf 5 = .ok (.iload_n 1, 1) := dd_all DX0_voiceOf_0_ok 3 rfl
theorem dX0_voiceOf_6 : decode cX0_voiceOf 6 = .ok (.iload_n 2, 1) := dd_all DX0_voiceOf_0_ok 4 rfl
theorem dX0_voiceOf_7 : decode cX0_voiceOf 7 = .ok (.invokevirtual 89, 3) := dd_all DX0_voiceOf_0_ok 5 rfl
theorem dX0_voiceOf_10 : decode cX0_voiceOf 10 = .ok (.ireturn, 1) := dd_all DX0_voiceOf_0_ok 6 rfl
def DX0_waiterOf_0 : List (Nat × Instr × Nat) := [(0, .aload_n 0, 1), (1, .aload_n 0, 1), (2, .getfield 30, 3), (5, .iload_n 1, 1), (6, .iload_n 2, 1), (7, .invokevirtual 89, 3), (10, .ireturn, 1)]
theorem DX0_waiterOf_0_ok : ∀ q ∈ DX0_waiterOf_0, decode cX0_waiterOf q.1 = .ok (q.2.1, q.2.2) := by decide +kernel
theorem dX0_waiterOf_0 : decode cX0_waiterOf 0 = .ok (.aload_n 0, 1) := dd_all DX0_waiterOf_0_ok 0 rfl
theorem dX0_waiterOf_1 : decode cX0_waiterOf 1 = .ok (.aload_n 0, 1) := dd_all DX0_waiterOf_0_ok 1 rfl
theorem dX0_waiterOf_2 : decode cX0_waiterOf 2 = .ok (.getfield 30, 3) := dd_all DX0_waiterOf_0_ok 2 rfl
theorem dX0_waiterOf_5 : decode cX0_waiterOf 5 = .ok (.iload_n 1, 1) := dd_all DX0_waiterOf_0_ok 3 rfl
theorem dX0_waiterOf_6 : decode cX0_waiterOf 6 = .ok (.iload_n 2, 1) := dd_all DX0_waiterOf_0_ok 4 rfl
theorem dX0_waiterOf_7 : decode cX0_waiterOf 7 = .ok (.invokevirtual 89, 3) := dd_all DX0_waiterOf_0_ok 5 rfl
theorem dX0_waiterOf_10 : decode cX0_waiterOf 10 = .ok (.ireturn, 1) := dd_all DX0_waiterOf_0_ok 6 rfl
def DX0_singerToLetGo_0 : List (Nat × Instr × Nat) := [(0, .aload_n 0, 1), (1, .iload_n 1, 1), (2, .iload_n 2, 1), (3, .invokevirtual 93, 3), (6, .istore_n 3, 1), (7, .iload_n 3, 1), (8, .iconst (-1), 1), (9, .if_icmp .eq 33, 3), (12, .aload_n 0, 1), (13, .getfield 12, 3), (16, .getfield 97, 3), (19, .iload_n 3, 1), (20, .invokestatic 100, 3), (23, .iconst 4, 1), (24, .if_icmp .eq 18, 3), (27, .aload_n 0, 1), (28, .getfield 12, 3), (31, .getfield 104, 3), (34, .iload_n 3, 1), (35, .invokestatic 100, 3), (38, .iconst 1, 1), (39, .if_icmp .ne 5, 3), (42, .iconst (-1), 1), (43, .ireturn, 1), (44, .iload_n 3, 1), (45, .ireturn, 1)]
theorem DX0_singerToLetGo_0_ok : ∀ q ∈ DX0_singerToLetGo_0, decode cX0_singerToLetGo q.1 = .ok (q.2.1, q.2.2) := by decide +kernel
theorem dX0_singerToLetGo_0 : decode cX0_singerToLetGo 0 = .ok (.aload_n 0, 1) := dd_all DX0_singerToLetGo_0_ok 0 rfl
theorem dX0_singerToLetGo_1 : decode cX0_singerToLetGo 1 = .ok (.iload_n 1, 1) := dd_all DX0_singerToLetGo_0_ok 1 rfl
theorem dX0_singerToLetGo_2 : decode cX0_singerToLetGo 2 = .ok (.iload_n 2, 1) := dd_all DX0_singerToLetGo_0_ok 2 rfl
theorem dX0_singerToLetGo_3 : decode cX0_singerToLetGo 3 = .ok (.invokevirtual 93, 3) := dd_all DX0_singerToLetGo_0_ok 3 rfl
theorem dX0_singerToLetGo_6 : decode cX0_singerToLetGo 6 = .ok (.istore_n 3, 1) := dd_all DX0_singerToLetGo_0_ok 4 rfl
theorem dX0_singerToLetGo_7 : decode cX0_singerToLetGo 7 = .ok (.iload_n 3, 1) := dd_all DX0_singerToLetGo_0_ok 5 rfl
theorem dX0_singerToLetGo_8 : decode cX0_singerToLetGo 8 = .ok (.iconst (-1), 1) := dd_all DX0_singerToLetGo_0_ok 6 rfl
theorem dX0_singerToLetGo_9 : decode cX0_singerToLetGo 9 = .ok (.if_icmp .eq 33, 3) := dd_all DX0_singerToLetGo_0_ok 7 rfl
theorem dX0_singerToLetGo_12 : decode cX0_singerToLetGo 12 = .ok (.aload_n 0, 1) := dd_all DX0_singerToLetGo_0_ok 8 rfl
theorem dX0_singerToLetGo_13 : decode cX0_singerToLetGo 13 = .ok (.getfield 12, 3) := dd_all DX0_singerToLetGo_0_ok 9 rfl
theorem dX0_singerToLetGo_16 : decode cX0_singerToLetGo 16 = .ok (.getfield 97, 3) := dd_all DX0_singerToLetGo_0_ok 10 rfl
theorem dX0_singerToLetGo_19 : decode cX0_singerToLetGo 19 = .ok (.iload_n 3, 1) := dd_all DX0_singerToLetGo_0_ok 11 rfl
theorem dX0_singerToLetGo_20 : decode cX0_singerToLetGo 20 = .ok (.invokestatic 100, 3) := dd_all DX0_singerToLetGo_0_ok 12 rfl
theorem dX0_singerToLetGo_23 : decode cX0_singerToLetGo 23 = .ok (.iconst 4, 1) := dd_all DX0_singerToLetGo_0_ok 13 rfl
theorem dX0_singerToLetGo_24 : decode cX0_singerToLetGo 24 = .ok (.if_icmp .eq 18, 3) := dd_all DX0_singerToLetGo_0_ok 14 rfl
theorem dX0_singerToLetGo_27 : decode cX0_singerToLetGo 27 = .ok (.aload_n 0, 1) := dd_all DX0_singerToLetGo_0_ok 15 rfl
theorem dX0_singerToLetGo_28 : decode cX0_singerToLetGo 28 = .ok (.getfield 12, 3) := dd_all DX0_singerToLetGo_0_ok 16 rfl
theorem dX0_singerToLetGo_31 : decode cX0_singerToLetGo 31 = .ok (.getfield 104, 3) := dd_all DX0_singerToLetGo_0_ok 17 rfl
theorem dX0_singerToLetGo_34 : decode cX0_singerToLetGo 34 = .ok (.iload_n 3, 1) := dd_all DX0_singerToLetGo_0_ok 18 rfl
theorem dX0_singerToLetGo_35 : decode cX0_singerToLetGo 35 = .ok (.invokestatic 100, 3) := dd_all DX0_singerToLetGo_0_ok 19 rfl
theorem dX0_singerToLetGo_38 : decode cX0_singerToLetGo 38 = .ok (.iconst 1, 1) := dd_all DX0_singerToLetGo_0_ok 20 rfl
theorem dX0_singerToLetGo_39 : decode cX0_singerToLetGo 39 = .ok (.if_icmp .ne 5, 3) := dd_all DX0_singerToLetGo_0_ok 21 rfl
theorem dX0_singerToLetGo_42 : decode cX0_singerToLetGo 42 = .ok (.iconst (-1), 1) := dd_all DX0_singerToLetGo_0_ok 22 rfl
theorem dX0_singerToLetGo_43 : decode cX0_singerToLetGo 43 = .ok (.ireturn, 1) := dd_all DX0_singerToLetGo_0_ok 23 rfl
theorem dX0_singerToLetGo_44 : decode cX0_singerToLetGo 44 = .ok (.iload_n 3, 1) := dd_all DX0_singerToLetGo_0_ok 24 rfl
theorem dX0_singerToLetGo_45 : decode cX0_singerToLetGo 45 = .ok (.ireturn, 1) := dd_all DX0_singerToLetGo_0_ok 25 rfl
def DX0_freePlaces_0 : List (Nat × Instr × Nat) := [(0, .iconst 0, 1), (1, .aload_n 0, 1), (2, .getfield 33, 3), (5, .iconst 0, 1), (6, .invokestatic 100, 3), (9, .aload_n 0, 1), (10, .getfield 23, 3), (13, .getfield 78, 3), (16, .isub, 1), (17, .invokestatic 107, 3), (20, .ireturn, 1)]
theorem DX0_freePlaces_0_ok : ∀ q ∈ DX0_freePlaces_0, decode cX0_freePlaces q.1 = .ok (q.2.1, q.2.2) := by decide +kernel
theorem dX0_freePlaces_0 : decode cX0_freePlaces 0 = .ok (.iconst 0, 1) := dd_all DX0_freePlaces_0_ok 0 rfl
theorem dX0_freePlaces_1 : decode cX0_freePlaces 1 = .ok (.aload_n 0, 1) := dd_all DX0_freePlaces_0_ok 1 rfl
theorem dX0_freePlaces_2 : decode cX0_freePlaces 2 = .ok (.getfield 33, 3) := dd_all DX0_freePlaces_0_ok 2 rfl
theorem dX0_freePlaces_5 : decode cX0_freePlaces 5 = .ok (.iconst 0, 1) := dd_all DX0_freePlaces_0_ok 3 rfl
theorem dX0_freePlaces_6 : decode cX0_freePlaces 6 = .ok (.invokestatic 100, 3) := dd_all DX0_freePlaces_0_ok 4 rfl
theorem dX0_freePlaces_9 : decode cX0_freePlaces 9 = .ok (.aload_n 0, 1) := dd_all DX0_freePlaces_0_ok 5 rfl
theorem dX0_freePlaces_10 : decode cX0_freePlaces 10 = .ok (.getfield 23, 3) := dd_all DX0_freePlaces_0_ok 6 rfl
theorem dX0_freePlaces_13 : decode cX0_freePlaces 13 = .ok (.getfield 78, 3) := dd_all DX0_freePlaces_0_ok 7 rfl
theorem dX0_freePlaces_16 : decode cX0_freePlaces 16 = .ok (.isub, 1) := dd_all DX0_freePlaces_0_ok 8 rfl
theorem dX0_freePlaces_17 : decode cX0_freePlaces 17 = .ok (.invokestatic 107, 3) := dd_all DX0_freePlaces_0_ok 9 rfl
theorem dX0_freePlaces_20 : decode cX0_freePlaces 20 = .ok (.ireturn, 1) := dd_all DX0_freePlaces_0_ok 10 rfl
def DX0_toSendHome_0 : List (Nat × Instr × Nat) := [(0, .aload_n 0, 1), (1, .getfield 33, 3), (4, .iconst 1, 1), (5, .invokestatic 100, 3), (8, .istore_n 1, 1), (9, .iload_n 1, 1), (10, .ifCond .eq 10, 3), (13, .iload_n 1, 1), (14, .iconst 1, 1), (15, .if_icmp .eq 5, 3), (18, .iconst (-1), 1), (19, .ireturn, 1), (20, .aload_n 0, 1), (21, .iload_n 1, 1), (22, .iconst 1, 1), (23, .invokevirtual 112, 3), (26, .istore_n 2, 1), (27, .iload_n 2, 1), (28, .iconst (-1), 1), (29, .if_icmp .ne 12, 3), (32, .aload_n 0, 1), (33, .iload_n 1, 1), (34, .iconst 0, 1), (35, .invokevirtual 112, 3), (38, .goto 4, 3), (41, .iload_n 2, 1), (42, .ireturn, 1)]
theorem DX0_toSendHome_0_ok : ∀ q ∈ DX0_toSendHome_0, decode cX0_toSendHome q.1 = .ok (q.2.1, q.2.2) := by decide +kernel
theorem dX0_toSendHome_0 : decode cX0_toSendHome 0 = .ok (.aload_n 0, 1) := dd_all DX0_toSendHome_0_ok 0 rfl
theorem dX0_toSendHome_1 : decode cX0_toSendHome 1 = .ok (.getfield 33, 3) := dd_all DX0_toSendHome_0_ok 1 rfl
theorem dX0_toSendHome_4 : decode cX0_toSendHome 4 = .ok (.iconst 1, 1) := dd_all DX0_toSendHome_0_ok 2 rfl
theorem dX0_toSendHome_5 : decode cX0_toSendHome 5 = .ok (.invokestatic 100, 3) := dd_all DX0_toSendHome_0_ok 3 rfl
theorem dX0_toSendHome_8 : decode cX0_toSendHome 8 = .ok (.istore_n 1, 1) := dd_all DX0_toSendHome_0_ok 4 rfl
theorem dX0_toSendHome_9 : decode cX0_toSendHome 9 = .ok (.iload_n 1, 1) := dd_all DX0_toSendHome_0_ok 5 rfl
theorem dX0_toSendHome_10 : decode cX0_toSendHome 10 = .ok (.ifCond .eq 10, 3) := dd_all DX0_toSendHome_0_ok 6 rfl
theorem dX0_toSendHome_13 : decode cX0_toSendHome 13 = .ok (.iload_n 1, 1) := dd_all DX0_toSendHome_0_ok 7 rfl
theorem dX0_toSendHome_14 : decode cX0_toSendHome 14 = .ok (.iconst 1, 1) := dd_all DX0_toSendHome_0_ok 8 rfl
theorem dX0_toSendHome_15 : decode cX0_toSendHome 15 = .ok (.if_icmp .eq 5, 3) := dd_all DX0_toSendHome_0_ok 9 rfl
theorem dX0_toSendHome_18 : decode cX0_toSendHome 18 = .ok (.iconst (-1), 1) := dd_all DX0_toSendHome_0_ok 10 rfl
theorem dX0_toSendHome_19 : decode cX0_toSendHome 19 = .ok (.ireturn, 1) := dd_all DX0_toSendHome_0_ok 11 rfl
theorem dX0_toSendHome_20 : decode cX0_toSendHome 20 = .ok (.aload_n 0, 1) := dd_all DX0_toSendHome_0_ok 12 rfl
theorem dX0_toSendHome_21 : decode cX0_toSendHome 21 = .ok (.iload_n 1, 1) := dd_all DX0_toSendHome_0_ok 13 rfl
theorem dX0_toSendHome_22 : decode cX0_toSendHome 22 = .ok (.iconst 1, 1) := dd_all DX0_toSendHome_0_ok 14 rfl
theorem dX0_toSendHome_23 : decode cX0_toSendHome 23 = .ok (.invokevirtual 112, 3) := dd_all DX0_toSendHome_0_ok 15 rfl
theorem dX0_toSendHome_26 : decode cX0_toSendHome 26 = .ok (.istore_n 2, 1) := dd_all DX0_toSendHome_0_ok 16 rfl
theorem dX0_toSendHome_27 : decode cX0_toSendHome 27 = .ok (.iload_n 2, 1) := dd_all DX0_toSendHome_0_ok 17 rfl
theorem dX0_toSendHome_28 : decode cX0_toSendHome 28 = .ok (.iconst (-1), 1) := dd_all DX0_toSendHome_0_ok 18 rfl
theorem dX0_toSendHome_29 : decode cX0_toSendHome 29 = .ok (.if_icmp .ne 12, 3) := dd_all DX0_toSendHome_0_ok 19 rfl
theorem dX0_toSendHome_32 : decode cX0_toSendHome 32 = .ok (.aload_n 0, 1) := dd_all DX0_toSendHome_0_ok 20 rfl
theorem dX0_toSendHome_33 : decode cX0_toSendHome 33 = .ok (.iload_n 1, 1) := dd_all DX0_toSendHome_0_ok 21 rfl
theorem dX0_toSendHome_34 : decode cX0_toSendHome 34 = .ok (.iconst 0, 1) := dd_all DX0_toSendHome_0_ok 22 rfl
theorem dX0_toSendHome_35 : decode cX0_toSendHome 35 = .ok (.invokevirtual 112, 3) := dd_all DX0_toSendHome_0_ok 23 rfl
theorem dX0_toSendHome_38 : decode cX0_toSendHome 38 = .ok (.goto 4, 3) := dd_all DX0_toSendHome_0_ok 24 rfl
theorem dX0_toSendHome_41 : decode cX0_toSendHome 41 = .ok (.iload_n 2, 1) := dd_all DX0_toSendHome_0_ok 25 rfl
theorem dX0_toSendHome_42 : decode cX0_toSendHome 42 = .ok (.ireturn, 1) := dd_all DX0_toSendHome_0_ok 26 rfl
def DX0_firstToGo_0 : List (Nat × Instr × Nat) := [(0, .iconst (-1), 1), (1, .istore_n 3, 1), (2, .iconst 0, 1), (3, .istore 4, 2), (5, .iload 4, 2), (7, .aload_n 0, 1), (8, .getfield 23, 3), (11, .getfield 78, 3), (14, .if_icmp .ge 93, 3), (17, .aload_n 0, 1), (18, .getfield 23, 3), (21, .iload 4, 2), (23, .invokevirtual 81, 3), (26, .istore 5, 2), (28, .iload_n 2, 1), (29, .ifCond .eq 22, 3), (32, .aload_n 0, 1), (33, .getfield 12, 3), (36, .getfield 97, 3), (39, .iload 5, 2), (41, .invokestatic 100, 3), (44, .iconst 4, 1), (45, .if_icmp .eq 6, 3), (48, .goto 53, 3), (51, .iload_n 1, 1), (52, .ifCond .ne 33, 3), (55, .aload_n 0, 1), (56, .getfield 12, 3), (59, .getfield 116, 3), (62, .iload 5, 2), (64, .invokestatic 100, 3), (67, .aload_n 0, 1), (68, .getfield 12, 3), (71, .getfield 116, 3), (74, .iload_n 3, 1), (75, .invokestatic 100, 3), (78, .if_icmp .ge 7, 3), (81, .iconst 1, 1), (82, .goto 4, 3), (85, .iconst 0, 1)]
theorem DX0_firstToGo_0_ok : ∀ q ∈ DX0_firstToGo_0, decode cX0_firstToGo q.1 = .ok (q.2.1, q.2.2) := by decide +kernel
theorem dX0_firstToGo_0 : decode cX0_firstToGo 0 = .ok (.iconst (-1), 1) := dd_all DX0_firstToGo_0_ok 0 rfl
theorem dX0_firstToGo_1 : decode cX0_firstToGo 1 = .ok (.istore_n 3, 1) := dd_all DX0_firstToGo_0_ok 1 rfl
theorem dX0_firstToGo_2 : decode cX0_firstToGo 2 = .ok (.iconst 0, 1) := dd_all DX0_firstToGo_0_ok 2 rfl
theorem dX0_firstToGo_3 : decode cX0_firstToGo 3 = .ok (.istore 4, 2) := dd_all DX0_firstToGo_0_ok 3 rfl
theorem dX0_firstToGo_5 : decode cX0_firstToGo 5 = .ok (.iload 4, 2) := dd_all DX0_firstToGo_0_ok 4 rfl
theorem dX0_firstToGo_7 : decode cX0_firstToGo 7 = .ok (.aload_n 0, 1) := dd_all DX0_firstToGo_0_ok 5 rfl
theorem dX0_firstToGo_8 : decode cX0_firstToGo 8 = .ok (.getfield 23, 3) := dd_all DX0_firstToGo_0_ok 6 rfl
theorem dX0_firstToGo_11 : decode cX0_firstToGo 11 = .ok (.getfield 78, 3) := dd_all DX0_firstToGo_0_ok 7 rfl
theorem dX0_firstToGo_14 : decode cX0_firstToGo 14 = .ok (.if_icmp .ge 93, 3) := dd_all DX0_firstToGo_0_ok 8 rfl
theorem dX0_firstToGo_17 : decode cX0_firstToGo 17 = .ok (.aload_n 0, 1) := dd_all DX0_firstToGo_0_ok 9 rfl
theorem dX0_firstToGo_18 : decode cX0_firstToGo 18 = .ok (.getfield 23, 3) := dd_all DX0_firstToGo_0_ok 10 rfl
theorem dX0_firstToGo_21 : decode cX0_firstToGo 21 = .ok (.iload 4, 2) := dd_all DX0_firstToGo_0_ok 11 rfl
theorem dX0_firstToGo_23 : decode cX0_firstToGo 23 = .ok (.invokevirtual 81, 3) := dd_all DX0_firstToGo_0_ok 12 rfl
theorem dX0_firstToGo_26 : decode cX0_firstToGo 26 = .ok (.istore 5, 2) := dd_all DX0_firstToGo_0_ok 13 rfl
theorem dX0_firstToGo_28 : decode cX0_firstToGo 28 = .ok (.iload_n 2, 1) := dd_all DX0_firstToGo_0_ok 14 rfl
theorem dX0_firstToGo_29 : decode cX0_firstToGo 29 = .ok (.ifCond .eq 22, 3) := dd_all DX0_firstToGo_0_ok 15 rfl
theorem dX0_firstToGo_32 : decode cX0_firstToGo 32 = .ok (.aload_n 0, 1) := dd_all DX0_firstToGo_0_ok 16 rfl
theorem dX0_firstToGo_33 : decode cX0_firstToGo 33 = .ok (.getfield 12, 3) := dd_all DX0_firstToGo_0_ok 17 rfl
theorem dX0_firstToGo_36 : decode cX0_firstToGo 36 = .ok (.getfield 97, 3) := dd_all DX0_firstToGo_0_ok 18 rfl
theorem dX0_firstToGo_39 : decode cX0_firstToGo 39 = .ok (.iload 5, 2) := dd_all DX0_firstToGo_0_ok 19 rfl
theorem dX0_firstToGo_41 : decode cX0_firstToGo 41 = .ok (.invokestatic 100, 3) := dd_all DX0_firstToGo_0_ok 20 rfl
theorem dX0_firstToGo_44 : decode cX0_firstToGo 44 = .ok (.iconst 4, 1) := dd_all DX0_firstToGo_0_ok 21 rfl
theorem dX0_firstToGo_45 : decode cX0_firstToGo 45 = .ok (.if_icmp .eq 6, 3) := dd_all DX0_firstToGo_0_ok 22 rfl
theorem dX0_firstToGo_48 : decode cX0_firstToGo 48 = .ok (.goto 53, 3) := dd_all DX0_firstToGo_0_ok 23 rfl
theorem dX0_firstToGo_51 : decode cX0_firstToGo 51 = .ok (.iload_n 1, 1) := dd_all DX0_firstToGo_0_ok 24 rfl
theorem dX0_firstToGo_52 : decode cX0_firstToGo 52 = .ok (.ifCond .ne 33, 3) := dd_all DX0_firstToGo_0_ok 25 rfl
theorem dX0_firstToGo_55 : decode cX0_firstToGo 55 = .ok (.aload_n 0, 1) := dd_all DX0_firstToGo_0_ok 26 rfl
theorem dX0_firstToGo_56 : decode cX0_firstToGo 56 = .ok (.getfield 12, 3) := dd_all DX0_firstToGo_0_ok 27 rfl
theorem dX0_firstToGo_59 : decode cX0_firstToGo 59 = .ok (.getfield 116, 3) := dd_all DX0_firstToGo_0_ok 28 rfl
theorem dX0_firstToGo_62 : decode cX0_firstToGo 62 = .ok (.iload 5, 2) := dd_all DX0_firstToGo_0_ok 29 rfl
theorem dX0_firstToGo_64 : decode cX0_firstToGo 64 = .ok (.invokestatic 100, 3) := dd_all DX0_firstToGo_0_ok 30 rfl
theorem dX0_firstToGo_67 : decode cX0_firstToGo 67 = .ok (.aload_n 0, 1) := dd_all DX0_firstToGo_0_ok 31 rfl
theorem dX0_firstToGo_68 : decode cX0_firstToGo 68 = .ok (.getfield 12, 3) := dd_all DX0_firstToGo_0_ok 32 rfl
theorem dX0_firstToGo_71 : decode cX0_firstToGo 71 = .ok (.getfield 116, 3) := dd_all DX0_firstToGo_0_ok 33 rfl
theorem dX0_firstToGo_74 : decode cX0_firstToGo 74 = .ok (.iload_n 3, 1) := dd_all DX0_firstToGo_0_ok 34 rfl
theorem dX0_firstToGo_75 : decode cX0_firstToGo 75 = .ok (.invokestatic 100, 3) := dd_all DX0_firstToGo_0_ok 35 rfl
theorem dX0_firstToGo_78 : decode cX0_firstToGo 78 = .ok (.if_icmp .ge 7, 3) := dd_all DX0_firstToGo_0_ok 36 rfl
theorem dX0_firstToGo_81 : decode cX0_firstToGo 81 = .ok (.iconst 1, 1) := dd_all DX0_firstToGo_0_ok 37 rfl
theorem dX0_firstToGo_82 : decode cX0_firstToGo 82 = .ok (.goto 4, 3) := dd_all DX0_firstToGo_0_ok 38 rfl
theorem dX0_firstToGo_85 : decode cX0_firstToGo 85 = .ok (.iconst 0, 1) := dd_all DX0_firstToGo_0_ok 39 rfl
def DX0_firstToGo_40 : List (Nat × Instr × Nat) := [(86, .istore 6, 2), (88, .iload_n 3, 1), (89, .iconst (-1), 1), (90, .if_icmp .eq 8, 3), (93, .iload 6, 2), (95, .ifCond .eq 6, 3), (98, .iload 5, 2), (100, .istore_n 3, 1), (101, .iinc 4 1, 3), (104, .goto (-99), 3), (107, .iload_n 3, 1), (108, .ireturn, 1)]
theorem DX0_firstToGo_40_ok : ∀ q ∈ DX0_firstToGo_40, decode cX0_firstToGo q.1 = .ok (q.2.1, q.2.2) := by decide +kernel
theorem dX0_firstToGo_86 : decode cX0_firstToGo 86 = .ok (.istore 6, 2) := dd_all DX0_firstToGo_40_ok 0 rfl
theorem dX0_firstToGo_88 : decode cX0_firstToGo 88 = .ok (.iload_n 3, 1) := dd_all DX0_firstToGo_40_ok 1 rfl
theorem dX0_firstToGo_89 : decode cX0_firstToGo 89 = .ok (.iconst (-1), 1) := dd_all DX0_firstToGo_40_ok 2 rfl
theorem dX0_firstToGo_90 : decode cX0_firstToGo 90 = .ok (.if_icmp .eq 8, 3) := dd_all DX0_firstToGo_40_ok 3 rfl
theorem dX0_firstToGo_93 : decode cX0_firstToGo 93 = .ok (.iload 6, 2) := dd_all DX0_firstToGo_40_ok 4 rfl
theorem dX0_firstToGo_95 : decode cX0_firstToGo 95 = .ok (.ifCond .eq 6, 3) := dd_all DX0_firstToGo_40_ok 5 rfl
theorem dX0_firstToGo_98 : decode cX0_firstToGo 98 = .ok (.iload 5, 2) := dd_all DX0_firstToGo_40_ok 6 rfl
theorem dX0_firstToGo_100 : decode cX0_firstToGo 100 = .ok (.istore_n 3, 1) := dd_all DX0_firstToGo_40_ok 7 rfl
theorem dX0_firstToGo_101 : decode cX0_firstToGo 101 = .ok (.iinc 4 1, 3) := dd_all DX0_firstToGo_40_ok 8 rfl
theorem dX0_firstToGo_104 : decode cX0_firstToGo 104 = .ok (.goto (-99), 3) := dd_all DX0_firstToGo_40_ok 9 rfl
theorem dX0_firstToGo_107 : decode cX0_firstToGo 107 = .ok (.iload_n 3, 1) := dd_all DX0_firstToGo_40_ok 10 rfl
theorem dX0_firstToGo_108 : decode cX0_firstToGo 108 = .ok (.ireturn, 1) := dd_all DX0_firstToGo_40_ok 11 rfl
def DX0_newNoteMustWait_0 : List (Nat × Instr × Nat) := [(0, .aload_n 0, 1), (1, .invokevirtual 119, 3), (4, .ifCond .ne 26, 3), (7, .aload_n 0, 1), (8, .getfield 27, 3), (11, .getfield 78, 3), (14, .iconst 4, 1), (15, .if_icmp .ge 11, 3), (18, .aload_n 0, 1), (19, .invokevirtual 123, 3), (22, .iconst (-1), 1), (23, .if_icmp .ne 7, 3), (26, .iconst 1, 1), (27, .goto 4, 3), (30, .iconst 0, 1), (31, .ireturn, 1)]
theorem DX0_newNoteMustWait_0_ok : ∀ q ∈ DX0_newNoteMustWait_0, decode cX0_newNoteMustWait q.1 = .ok (q.2.1, q.2.2) := by decide +kernel
theorem dX0_newNoteMustWait_0 : decode cX0_newNoteMustWait 0 = .ok (.aload_n 0, 1) := dd_all DX0_newNoteMustWait_0_ok 0 rfl
theorem dX0_newNoteMustWait_1 : decode cX0_newNoteMustWait 1 = .ok (.invokevirtual 119, 3) := dd_all DX0_newNoteMustWait_0_ok 1 rfl
theorem dX0_newNoteMustWait_4 : decode cX0_newNoteMustWait 4 = .ok (.ifCond .ne 26, 3) := dd_all DX0_newNoteMustWait_0_ok 2 rfl
theorem dX0_newNoteMustWait_7 : decode cX0_newNoteMustWait 7 = .ok (.aload_n 0, 1) := dd_all DX0_newNoteMustWait_0_ok 3 rfl
theorem dX0_newNoteMustWait_8 : decode cX0_newNoteMustWait 8 = .ok (.getfield 27, 3) := dd_all DX0_newNoteMustWait_0_ok 4 rfl
theorem dX0_newNoteMustWait_11 : decode cX0_newNoteMustWait 11 = .ok (.getfield 78, 3) := dd_all DX0_newNoteMustWait_0_ok 5 rfl
theorem dX0_newNoteMustWait_14 : decode cX0_newNoteMustWait 14 = .ok (.iconst 4, 1) := dd_all DX0_newNoteMustWait_0_ok 6 rfl
theorem dX0_newNoteMustWait_15 : decode cX0_newNoteMustWait 15 = .ok (.if_icmp .ge 11, 3) := dd_all DX0_newNoteMustWait_0_ok 7 rfl
theorem dX0_newNoteMustWait_18 : decode cX0_newNoteMustWait 18 = .ok (.aload_n 0, 1) := dd_all DX0_newNoteMustWait_0_ok 8 rfl
theorem dX0_newNoteMustWait_19 : decode cX0_newNoteMustWait 19 = .ok (.invokevirtual 123, 3) := dd_all DX0_newNoteMustWait_0_ok 9 rfl
theorem dX0_newNoteMustWait_22 : decode cX0_newNoteMustWait 22 = .ok (.iconst (-1), 1) := dd_all DX0_newNoteMustWait_0_ok 10 rfl
theorem dX0_newNoteMustWait_23 : decode cX0_newNoteMustWait 23 = .ok (.if_icmp .ne 7, 3) := dd_all DX0_newNoteMustWait_0_ok 11 rfl
theorem dX0_newNoteMustWait_26 : decode cX0_newNoteMustWait 26 = .ok (.iconst 1, 1) := dd_all DX0_newNoteMustWait_0_ok 12 rfl
theorem dX0_newNoteMustWait_27 : decode cX0_newNoteMustWait 27 = .ok (.goto 4, 3) := dd_all DX0_newNoteMustWait_0_ok 13 rfl
theorem dX0_newNoteMustWait_30 : decode cX0_newNoteMustWait 30 = .ok (.iconst 0, 1) := dd_all DX0_newNoteMustWait_0_ok 14 rfl
theorem dX0_newNoteMustWait_31 : decode cX0_newNoteMustWait 31 = .ok (.ireturn, 1) := dd_all DX0_newNoteMustWait_0_ok 15 rfl
def DX0_takesNewNote_0 : List (Nat × Instr × Nat) := [(0, .aload_n 0, 1), (1, .getfield 12, 3), (4, .getfield 126, 3), (7, .sipush 200, 3), (10, .if_icmp .ge 26, 3), (13, .aload_n 0, 1), (14, .invokevirtual 127, 3), (17, .ifCond .eq 15, 3), (20, .aload_n 0, 1), (21, .getfield 30, 3), (24, .getfield 78, 3), (27, .bipush 6, 2), (29, .if_icmp .ge 7, 3), (32, .iconst 1, 1), (33, .goto 4, 3), (36, .iconst 0, 1), (37, .ireturn, 1)]
theorem DX0_takesNewNote_0_ok : ∀ q ∈ DX0_takesNewNote_0, decode cX0_takesNewNote q.1 = .ok (q.2.1, q.2.2) := by decide +kernel
theorem dX0_takesNewNote_0 : decode cX0_takesNewNote 0 = .ok (.aload_n 0, 1) := dd_all DX0_takesNewNote_0_ok 0 rfl
theorem dX0_takesNewNote_1 : decode cX0_takesNewNote 1 = .ok (.getfield 12, 3) := dd_all DX0_takesNewNote_0_ok 1 rfl
theorem dX0_takesNewNote_4 : decode cX0_takesNewNote 4 = .ok (.getfield 126, 3) := dd_all DX0_takesNewNote_0_ok 2 rfl
theorem dX0_takesNewNote_7 : decode cX0_takesNewNote 7 = .ok (.sipush 200, 3) := dd_all DX0_takesNewNote_0_ok 3 rfl
theorem dX0_takesNewNote_10 : decode cX0_takesNewNote 10 = .ok (.if_icmp .ge 26, 3) := dd_all DX0_takesNewNote_0_ok 4 rfl
theorem dX0_takesNewNote_13 : decode cX0_takesNewNote 13 = .ok (.aload_n 0, 1) := dd_all DX0_takesNewNote_0_ok 5 rfl
theorem dX0_takesNewNote_14 : decode cX0_takesNewNote 14 = .ok (.invokevirtual 127, 3) := dd_all DX0_takesNewNote_0_ok 6 rfl
theorem dX0_takesNewNote_17 : decode cX0_takesNewNote 17 = .ok (.ifCond .eq 15, 3) := dd_all DX0_takesNewNote_0_ok 7 rfl
theorem dX0_takesNewNote_20 : decode cX0_takesNewNote 20 = .ok (.aload_n 0, 1) := dd_all DX0_takesNewNote_0_ok 8 rfl
theorem dX0_takesNewNote_21 : decode cX0_takesNewNote 21 = .ok (.getfield 30, 3) := dd_all DX0_takesNewNote_0_ok 9 rfl
theorem dX0_takesNewNote_24 : decode cX0_takesNewNote 24 = .ok (.getfield 78, 3) := dd_all DX0_takesNewNote_0_ok 10 rfl
theorem dX0_takesNewNote_27 : decode cX0_takesNewNote 27 = .ok (.bipush 6, 2) := dd_all DX0_takesNewNote_0_ok 11 rfl
theorem dX0_takesNewNote_29 : decode cX0_takesNewNote 29 = .ok (.if_icmp .ge 7, 3) := dd_all DX0_takesNewNote_0_ok 12 rfl
theorem dX0_takesNewNote_32 : decode cX0_takesNewNote 32 = .ok (.iconst 1, 1) := dd_all DX0_takesNewNote_0_ok 13 rfl
theorem dX0_takesNewNote_33 : decode cX0_takesNewNote 33 = .ok (.goto 4, 3) := dd_all DX0_takesNewNote_0_ok 14 rfl
theorem dX0_takesNewNote_36 : decode cX0_takesNewNote 36 = .ok (.iconst 0, 1) := dd_all DX0_takesNewNote_0_ok 15 rfl
theorem dX0_takesNewNote_37 : decode cX0_takesNewNote 37 = .ok (.ireturn, 1) := dd_all DX0_takesNewNote_0_ok 16 rfl
def DX0_takeNewNote_0 : List (Nat × Instr × Nat) := [(0, .aload_n 0, 1), (1, .invokevirtual 127, 3), (4, .istore 4, 2), (6, .aload_n 0, 1), (7, .getfield 12, 3), (10, .iload_n 1, 1), (11, .iload_n 2, 1), (12, .iload_n 3, 1), (13, .invokevirtual 131, 3), (16, .istore 5, 2), (18, .iload 4, 2), (20, .ifCond .eq 15, 3), (23, .aload_n 0, 1), (24, .getfield 30, 3), (27, .iload 5, 2), (29, .invokevirtual 135, 3), (32, .iload 5, 2), (34, .ireturn, 1), (35, .aload_n 0, 1), (36, .invokevirtual 119, 3), (39, .ifCond .ne 11, 3), (42, .aload_n 0, 1), (43, .aload_n 0, 1), (44, .invokevirtual 123, 3), (47, .invokevirtual 137, 3), (50, .aload_n 0, 1), (51, .iload 5, 2), (53, .invokevirtual 140, 3), (56, .iload 5, 2), (58, .ireturn, 1)]
theorem DX0_takeNewNote_0_ok : ∀ q ∈ DX0_takeNewNote_0, decode cX0_takeNewNote q.1 = .ok (q.2.1, q.2.2) := by decide +kernel
theorem dX0_takeNewNote_0 : decode cX0_takeNewNote 0 = .ok (.aload_n 0, 1) := dd_all DX0_takeNewNote_0_ok 0 rfl
theorem dX0_takeNewNote_1 : decode cX0_takeNewNote 1 = .ok (.invokevirtual 127, 3) := dd_all DX0_takeNewNote_0_ok 1 rfl
theorem dX0_takeNewNote_4 : decode cX0_takeNewNote 4 = .ok (.istore 4, 2) := dd_all DX0_takeNewNote_0_ok 2 rfl
theorem dX0_takeNewNote_6 : decode cX0_takeNewNote 6 = .ok (.aload_n 0, 1) := dd_all DX0_takeNewNote_0_ok 3 rfl
theorem dX0_takeNewNote_7 : decode cX0_takeNewNote 7 = .ok (.getfield 12, 3) := dd_all DX0_takeNewNote_0_ok 4 rfl
theorem dX0_takeNewNote_10 : decode cX0_takeNewNote 10 = .ok (.iload_n 1, 1) := dd_all DX0_takeNewNote_0_ok 5 rfl
theorem dX0_takeNewNote_11 : decode cX0_takeNewNote 11 = .ok (.iload_n 2, 1) := dd_all DX0_takeNewNote_0_ok 6 rfl
theorem dX0_takeNewNote_12 : decode cX0_takeNewNote 12 = .ok (.iload_n 3, 1) := dd_all DX0_takeNewNote_0_ok 7 rfl
theorem dX0_takeNewNote_13 : decode cX0_takeNewNote 13 = .ok (.invokevirtual 131, 3) := dd_all DX0_takeNewNote_0_ok 8 rfl
theorem dX0_takeNewNote_16 : decode cX0_takeNewNote 16 = .ok (.istore 5, 2) := dd_all DX0_takeNewNote_0_ok 9 rfl
theorem dX0_takeNewNote_18 : decode cX0_takeNewNote 18 = .ok (.iload 4, 2) := dd_all DX0_takeNewNote_0_ok 10 rfl
theorem dX0_takeNewNote_20 : decode cX0_takeNewNote 20 = .ok (.ifCond .eq 15, 3) := dd_all DX0_takeNewNote_0_ok 11 rfl
theorem dX0_takeNewNote_23 : decode cX0_takeNewNote 23 = .ok (.aload_n 0, 1) := dd_all DX0_takeNewNote_0_ok 12 rfl
theorem dX0_takeNewNote_24 : decode cX0_takeNewNote 24 = .ok (.getfield 30, 3) := dd_all DX0_takeNewNote_0_ok 13 rfl
theorem dX0_takeNewNote_27 : decode cX0_takeNewNote 27 = .ok (.iload 5, 2) := dd_all DX0_takeNewNote_0_ok 14 rfl
theorem dX0_takeNewNote_29 : decode cX0_takeNewNote 29 = .ok (.invokevirtual 135, 3) := dd_all DX0_takeNewNote_0_ok 15 rfl
theorem dX0_takeNewNote_32 : decode cX0_takeNewNote 32 = .ok (.iload 5, 2) := dd_all DX0_takeNewNote_0_ok 16 rfl
theorem dX0_takeNewNote_34 : decode cX0_takeNewNote 34 = .ok (.ireturn, 1) := dd_all DX0_takeNewNote_0_ok 17 rfl
theorem dX0_takeNewNote_35 : decode cX0_takeNewNote 35 = .ok (.aload_n 0, 1) := dd_all DX0_takeNewNote_0_ok 18 rfl
theorem dX0_takeNewNote_36 : decode cX0_takeNewNote 36 = .ok (.invokevirtual 119, 3) := dd_all DX0_takeNewNote_0_ok 19 rfl
theorem dX0_takeNewNote_39 : decode cX0_takeNewNote 39 = .ok (.ifCond .ne 11, 3) := dd_all DX0_takeNewNote_0_ok 20 rfl
theorem dX0_takeNewNote_42 : decode cX0_takeNewNote 42 = .ok (.aload_n 0, 1) := dd_all DX0_takeNewNote_0_ok 21 rfl
theorem dX0_takeNewNote_43 : decode cX0_takeNewNote 43 = .ok (.aload_n 0, 1) := dd_all DX0_takeNewNote_0_ok 22 rfl
theorem dX0_takeNewNote_44 : decode cX0_takeNewNote 44 = .ok (.invokevirtual 123, 3) := dd_all DX0_takeNewNote_0_ok 23 rfl
theorem dX0_takeNewNote_47 : decode cX0_takeNewNote 47 = .ok (.invokevirtual 137, 3) := dd_all DX0_takeNewNote_0_ok 24 rfl
theorem dX0_takeNewNote_50 : decode cX0_takeNewNote 50 = .ok (.aload_n 0, 1) := dd_all DX0_takeNewNote_0_ok 25 rfl
theorem dX0_takeNewNote_51 : decode cX0_takeNewNote 51 = .ok (.iload 5, 2) := dd_all DX0_takeNewNote_0_ok 26 rfl
theorem dX0_takeNewNote_53 : decode cX0_takeNewNote 53 = .ok (.invokevirtual 140, 3) := dd_all DX0_takeNewNote_0_ok 27 rfl
theorem dX0_takeNewNote_56 : decode cX0_takeNewNote 56 = .ok (.iload 5, 2) := dd_all DX0_takeNewNote_0_ok 28 rfl
theorem dX0_takeNewNote_58 : decode cX0_takeNewNote 58 = .ok (.ireturn, 1) := dd_all DX0_takeNewNote_0_ok 29 rfl
def DX0_sendHome_0 : List (Nat × Instr × Nat) := [(0, .aload_n 0, 1), (1, .getfield 23, 3), (4, .iload_n 1, 1), (5, .invokevirtual 143, 3), (8, .aload_n 0, 1), (9, .getfield 27, 3), (12, .iload_n 1, 1), (13, .invokevirtual 135, 3), (16, .aload_n 0, 1), (17, .getfield 12, 3), (20, .iload_n 1, 1), (21, .iconst 5, 1), (22, .invokevirtual 146, 3), (25, .aload_n 0, 1), (26, .dup, 1), (27, .getfield 72, 3), (30, .iconst 1, 1), (31, .iadd, 1), (32, .putfield 72, 3), (35, .return_, 1)]
theorem DX0_sendHome_0_ok : ∀ q ∈ DX0_sendHome_0, decode cX0_sendHome q.1 = .ok (q.2.1, q.2.2) := by decide +kernel
theorem dX0_sendHome_0 : decode cX0_sendHome 0 = .ok (.aload_n 0, 1) := dd_all DX0_sendHome_0_ok 0 rfl
theorem dX0_sendHome_1 : decode cX0_sendHome 1 = .ok (.getfield 23, 3) := dd_all DX0_sendHome_0_ok 1 rfl
theorem dX0_sendHome_4 : decode cX0_sendHome 4 = .ok (.iload_n 1, 1) := dd_all DX0_sendHome_0_ok 2 rfl
theorem dX0_sendHome_5 : decode cX0_sendHome 5 = .ok (.invokevirtual 143, 3) := dd_all DX0_sendHome_0_ok 3 rfl
theorem dX0_sendHome_8 : decode cX0_sendHome 8 = .ok (.aload_n 0, 1) := dd_all DX0_sendHome_0_ok 4 rfl
theorem dX0_sendHome_9 : decode cX0_sendHome 9 = .ok (.getfield 27, 3) := dd_all DX0_sendHome_0_ok 5 rfl
theorem dX0_sendHome_12 : decode cX0_sendHome 12 = .ok (.iload_n 1, 1) := dd_all DX0_sendHome_0_ok 6 rfl
theorem dX0_sendHome_13 : decode cX0_sendHome 13 = .ok (.invokevirtual 135, 3) := dd_all DX0_sendHome_0_ok 7 rfl
theorem dX0_sendHome_16 : decode cX0_sendHome 16 = .ok (.aload_n 0, 1) := dd_all DX0_sendHome_0_ok 8 rfl
theorem dX0_sendHome_17 : decode cX0_sendHome 17 = .ok (.getfield 12, 3) := dd_all DX0_sendHome_0_ok 9 rfl
theorem dX0_sendHome_20 : decode cX0_sendHome 20 = .ok (.iload_n 1, 1) := dd_all DX0_sendHome_0_ok 10 rfl
theorem dX0_sendHome_21 : decode cX0_sendHome 21 = .ok (.iconst 5, 1) := dd_all DX0_sendHome_0_ok 11 rfl
theorem dX0_sendHome_22 : decode cX0_sendHome 22 = .ok (.invokevirtual 146, 3) := dd_all DX0_sendHome_0_ok 12 rfl
theorem dX0_sendHome_25 : decode cX0_sendHome 25 = .ok (.aload_n 0, 1) := dd_all DX0_sendHome_0_ok 13 rfl
theorem dX0_sendHome_26 : decode cX0_sendHome 26 = .ok (.dup, 1) := dd_all DX0_sendHome_0_ok 14 rfl
theorem dX0_sendHome_27 : decode cX0_sendHome 27 = .ok (.getfield 72, 3) := dd_all DX0_sendHome_0_ok 15 rfl
theorem dX0_sendHome_30 : decode cX0_sendHome 30 = .ok (.iconst 1, 1) := dd_all DX0_sendHome_0_ok 16 rfl
theorem dX0_sendHome_31 : decode cX0_sendHome 31 = .ok (.iadd, 1) := dd_all DX0_sendHome_0_ok 17 rfl
theorem dX0_sendHome_32 : decode cX0_sendHome 32 = .ok (.putfield 72, 3) := dd_all DX0_sendHome_0_ok 18 rfl
theorem dX0_sendHome_35 : decode cX0_sendHome 35 = .ok (.return_, 1) := dd_all DX0_sendHome_0_ok 19 rfl
def DX0_comeIn_0 : List (Nat × Instr × Nat) := [(0, .aload_n 0, 1), (1, .getfield 12, 3), (4, .getfield 97, 3), (7, .iload_n 1, 1), (8, .iconst 1, 1), (9, .invokestatic 150, 3), (12, .aload_n 0, 1), (13, .getfield 23, 3), (16, .iload_n 1, 1), (17, .invokevirtual 135, 3), (20, .return_, 1)]
theorem DX0_comeIn_0_ok : ∀ q ∈ DX0_comeIn_0, decode cX0_comeIn q.1 = .ok (q.2.1, q.2.2) := by decide +kernel
theorem dX0_comeIn_0 : decode cX0_comeIn 0 = .ok (.aload_n 0, 1) := dd_all DX0_comeIn_0_ok 0 rfl
theorem dX0_comeIn_1 : decode cX0_comeIn 1 = .ok (.getfield 12, 3) := dd_all DX0_comeIn_0_ok 1 rfl
theorem dX0_comeIn_4 : decode cX0_comeIn 4 = .ok (.getfield 97, 3) := dd_all DX0_comeIn_0_ok 2 rfl
theorem dX0_comeIn_7 : decode cX0_comeIn 7 = .ok (.iload_n 1, 1) := dd_all DX0_comeIn_0_ok 3 rfl
theorem dX0_comeIn_8 : decode cX0_comeIn 8 = .ok (.iconst 1, 1) := dd_all DX0_comeIn_0_ok 4 rfl
theorem dX0_comeIn_9 : decode cX0_comeIn 9 = .ok (.invokestatic 150, 3) := dd_all DX0_comeIn_0_ok 5 rfl
theorem dX0_comeIn_12 : decode cX0_comeIn 12 = .ok (.aload_n 0, 1) := dd_all DX0_comeIn_0_ok 6 rfl
theorem dX0_comeIn_13 : decode cX0_comeIn 13 = .ok (.getfield 23, 3) := dd_all DX0_comeIn_0_ok 7 rfl
theorem dX0_comeIn_16 : decode cX0_comeIn 16 = .ok (.iload_n 1, 1) := dd_all DX0_comeIn_0_ok 8 rfl
theorem dX0_comeIn_17 : decode cX0_comeIn 17 = .ok (.invokevirtual 135, 3) := dd_all DX0_comeIn_0_ok 9 rfl
theorem dX0_comeIn_20 : decode cX0_comeIn 20 = .ok (.return_, 1) := dd_all DX0_comeIn_0_ok 10 rfl
def DX0_beginAnew_0 : List (Nat × Instr × Nat) := [(0, .aload_n 0, 1), (1, .getfield 12, 3), (4, .iload_n 1, 1), (5, .iload_n 2, 1), (6, .invokevirtual 154, 3), (9, .aload_n 0, 1), (10, .getfield 23, 3), (13, .iload_n 1, 1), (14, .invokevirtual 143, 3), (17, .aload_n 0, 1), (18, .getfield 23, 3), (21, .iload_n 1, 1), (22, .invokevirtual 135, 3), (25, .aload_n 0, 1), (26, .dup, 1), (27, .getfield 75, 3), (30, .iconst 1, 1), (31, .iadd, 1), (32, .putfield 75, 3), (35, .return_, 1)]
theorem DX0_beginAnew_0_ok : ∀ q ∈ DX0_beginAnew_0, decode cX0_beginAnew q.1 = .ok (q.2.1, q.2.2) := by decide +kernel
theorem dX0_beginAnew_0 : decode cX0_beginAnew 0 = .ok (.aload_n 0, 1) := dd_all DX0_beginAnew_0_ok 0 rfl
theorem dX0_beginAnew_1 : decode cX0_beginAnew 1 = .ok (.getfield 12, 3) := dd_all DX0_beginAnew_0_ok 1 rfl
theorem dX0_beginAnew_4 : decode cX0_beginAnew 4 = .ok (.iload_n 1, 1) := dd_all DX0_beginAnew_0_ok 2 rfl
theorem dX0_beginAnew_5 : decode cX0_beginAnew 5 = .ok (.iload_n 2, 1) := dd_all DX0_beginAnew_0_ok 3 rfl
theorem dX0_beginAnew_6 : decode cX0_beginAnew 6 = .ok (.invokevirtual 154, 3) := dd_all DX0_beginAnew_0_ok 4 rfl
theorem dX0_beginAnew_9 : decode cX0_beginAnew 9 = .ok (.aload_n 0, 1) := dd_all DX0_beginAnew_0_ok 5 rfl
theorem dX0_beginAnew_10 : decode cX0_beginAnew 10 = .ok (.getfield 23, 3) := dd_all DX0_beginAnew_0_ok 6 rfl
theorem dX0_beginAnew_13 : decode cX0_beginAnew 13 = .ok (.iload_n 1, 1) := dd_all DX0_beginAnew_0_ok 7 rfl
theorem dX0_beginAnew_14 : decode cX0_beginAnew 14 = .ok (.invokevirtual 143, 3) := dd_all DX0_beginAnew_0_ok 8 rfl
theorem dX0_beginAnew_17 : decode cX0_beginAnew 17 = .ok (.aload_n 0, 1) := dd_all DX0_beginAnew_0_ok 9 rfl
theorem dX0_beginAnew_18 : decode cX0_beginAnew 18 = .ok (.getfield 23, 3) := dd_all DX0_beginAnew_0_ok 10 rfl
theorem dX0_beginAnew_21 : decode cX0_beginAnew 21 = .ok (.iload_n 1, 1) := dd_all DX0_beginAnew_0_ok 11 rfl
theorem dX0_beginAnew_22 : decode cX0_beginAnew 22 = .ok (.invokevirtual 135, 3) := dd_all DX0_beginAnew_0_ok 12 rfl
theorem dX0_beginAnew_25 : decode cX0_beginAnew 25 = .ok (.aload_n 0, 1) := dd_all DX0_beginAnew_0_ok 13 rfl
theorem dX0_beginAnew_26 : decode cX0_beginAnew 26 = .ok (.dup, 1) := dd_all DX0_beginAnew_0_ok 14 rfl
theorem dX0_beginAnew_27 : decode cX0_beginAnew 27 = .ok (.getfield 75, 3) := dd_all DX0_beginAnew_0_ok 15 rfl
theorem dX0_beginAnew_30 : decode cX0_beginAnew 30 = .ok (.iconst 1, 1) := dd_all DX0_beginAnew_0_ok 16 rfl
theorem dX0_beginAnew_31 : decode cX0_beginAnew 31 = .ok (.iadd, 1) := dd_all DX0_beginAnew_0_ok 17 rfl
theorem dX0_beginAnew_32 : decode cX0_beginAnew 32 = .ok (.putfield 75, 3) := dd_all DX0_beginAnew_0_ok 18 rfl
theorem dX0_beginAnew_35 : decode cX0_beginAnew 35 = .ok (.return_, 1) := dd_all DX0_beginAnew_0_ok 19 rfl
def DX0_letGo_0 : List (Nat × Instr × Nat) := [(0, .aload_n 0, 1), (1, .getfield 12, 3), (4, .getfield 97, 3), (7, .iload_n 1, 1), (8, .invokestatic 100, 3), (11, .ifCond .ne 22, 3), (14, .aload_n 0, 1), (15, .getfield 30, 3), (18, .iload_n 1, 1), (19, .invokevirtual 143, 3), (22, .aload_n 0, 1), (23, .getfield 12, 3), (26, .iload_n 1, 1), (27, .invokevirtual 157, 3), (30, .goto 35, 3), (33, .aload_n 0, 1), (34, .getfield 69, 3), (37, .iconst 1, 1), (38, .if_icmp .ne 18, 3), (41, .aload_n 0, 1), (42, .getfield 12, 3), (45, .getfield 104, 3), (48, .iload_n 1, 1), (49, .iconst 1, 1), (50, .invokestatic 150, 3), (53, .goto 12, 3), (56, .aload_n 0, 1), (57, .getfield 12, 3), (60, .iload_n 1, 1), (61, .iconst 4, 1), (62, .invokevirtual 146, 3), (65, .return_, 1)]
theorem DX0_letGo_0_ok : ∀ q ∈ DX0_letGo_0, decode cX0_letGo q.1 = .ok (q.2.1, q.2.2) := by decide +kernel
theorem dX0_letGo_0 : decode cX0_letGo 0 = .ok (.aload_n 0, 1) := dd_all DX0_letGo_0_ok 0 rfl
theorem dX0_letGo_1 : decode cX0_letGo 1 = .ok (.getfield 12, 3) := dd_all DX0_letGo_0_ok 1 rfl
theorem dX0_letGo_4 : decode cX0_letGo 4 = .ok (.getfield 97, 3) := dd_all DX0_letGo_0_ok 2 rfl
theorem dX0_letGo_7 : decode cX0_letGo 7 = .ok (.iload_n 1, 1) := dd_all DX0_letGo_0_ok 3 rfl
theorem dX0_letGo_8 : decode cX0_letGo 8 = .ok (.invokestatic 100, 3) := dd_all DX0_letGo_0_ok 4 rfl
theorem dX0_letGo_11 : decode cX0_letGo 11 = .ok (.ifCond .ne 22, 3) := dd_all DX0_letGo_0_ok 5 rfl
theorem dX0_letGo_14 : decode cX0_letGo 14 = .ok (.aload_n 0, 1) := dd_all DX0_letGo_0_ok 6 rfl
theorem dX0_letGo_15 : decode cX0_letGo 15 = .ok (.getfield 30, 3) := dd_all DX0_letGo_0_ok 7 rfl
theorem dX0_letGo_18 : decode cX0_letGo 18 = .ok (.iload_n 1, 1) := dd_all DX0_letGo_0_ok 8 rfl
theorem dX0_letGo_19 : decode cX0_letGo 19 = .ok (.invokevirtual 143, 3) := dd_all DX0_letGo_0_ok 9 rfl
theorem dX0_letGo_22 : decode cX0_letGo 22 = .ok (.aload_n 0, 1) := dd_all DX0_letGo_0_ok 10 rfl
theorem dX0_letGo_23 : decode cX0_letGo 23 = .ok (.getfield 12, 3) := dd_all DX0_letGo_0_ok 11 rfl
theorem dX0_letGo_26 : decode cX0_letGo 26 = .ok (.iload_n 1, 1) := dd_all DX0_letGo_0_ok 12 rfl
theorem dX0_letGo_27 : decode cX0_letGo 27 = .ok (.invokevirtual 157, 3) := dd_all DX0_letGo_0_ok 13 rfl
theorem dX0_letGo_30 : decode cX0_letGo 30 = .ok (.goto 35, 3) := dd_all DX0_letGo_0_ok 14 rfl
theorem dX0_letGo_33 : decode cX0_letGo 33 = .ok (.aload_n 0, 1) := dd_all DX0_letGo_0_ok 15 rfl
theorem dX0_letGo_34 : decode cX0_letGo 34 = .ok (.getfield 69, 3) := dd_all DX0_letGo_0_ok 16 rfl
theorem dX0_letGo_37 : decode cX0_letGo 37 = .ok (.iconst 1, 1) := dd_all DX0_letGo_0_ok 17 rfl
theorem dX0_letGo_38 : decode cX0_letGo 38 = .ok (.if_icmp .ne 18, 3) := dd_all DX0_letGo_0_ok 18 rfl
theorem dX0_letGo_41 : decode cX0_letGo 41 = .ok (.aload_n 0, 1) := dd_all DX0_letGo_0_ok 19 rfl
theorem dX0_letGo_42 : decode cX0_letGo 42 = .ok (.getfield 12, 3) := dd_all DX0_letGo_0_ok 20 rfl
theorem dX0_letGo_45 : decode cX0_letGo 45 = .ok (.getfield 104, 3) := dd_all DX0_letGo_0_ok 21 rfl
theorem dX0_letGo_48 : decode cX0_letGo 48 = .ok (.iload_n 1, 1) := dd_all DX0_letGo_0_ok 22 rfl
theorem dX0_letGo_49 : decode cX0_letGo 49 = .ok (.iconst 1, 1) := dd_all DX0_letGo_0_ok 23 rfl
theorem dX0_letGo_50 : decode cX0_letGo 50 = .ok (.invokestatic 150, 3) := dd_all DX0_letGo_0_ok 24 rfl
theorem dX0_letGo_53 : decode cX0_letGo 53 = .ok (.goto 12, 3) := dd_all DX0_letGo_0_ok 25 rfl
theorem dX0_letGo_56 : decode cX0_letGo 56 = .ok (.aload_n 0, 1) := dd_all DX0_letGo_0_ok 26 rfl
theorem dX0_letGo_57 : decode cX0_letGo 57 = .ok (.getfield 12, 3) := dd_all DX0_letGo_0_ok 27 rfl
theorem dX0_letGo_60 : decode cX0_letGo 60 = .ok (.iload_n 1, 1) := dd_all DX0_letGo_0_ok 28 rfl
theorem dX0_letGo_61 : decode cX0_letGo 61 = .ok (.iconst 4, 1) := dd_all DX0_letGo_0_ok 29 rfl
theorem dX0_letGo_62 : decode cX0_letGo 62 = .ok (.invokevirtual 146, 3) := dd_all DX0_letGo_0_ok 30 rfl
theorem dX0_letGo_65 : decode cX0_letGo 65 = .ok (.return_, 1) := dd_all DX0_letGo_0_ok 31 rfl
def DX0_movePedal_0 : List (Nat × Instr × Nat) := [(0, .aload_n 0, 1), (1, .iload_n 1, 1), (2, .putfield 69, 3), (5, .iconst 0, 1), (6, .istore_n 2, 1), (7, .iconst 0, 1), (8, .istore_n 3, 1), (9, .iload_n 3, 1), (10, .aload_n 0, 1), (11, .getfield 23, 3), (14, .getfield 78, 3), (17, .if_icmp .ge 52, 3), (20, .aload_n 0, 1), (21, .getfield 23, 3), (24, .iload_n 3, 1), (25, .invokevirtual 81, 3), (28, .istore 4, 2), (30, .iload_n 1, 1), (31, .ifCond .ne 32, 3), (34, .aload_n 0, 1), (35, .getfield 12, 3), (38, .getfield 104, 3), (41, .iload 4, 2), (43, .invokestatic 100, 3), (46, .iconst 1, 1), (47, .if_icmp .ne 16, 3), (50, .aload_n 0, 1), (51, .getfield 12, 3), (54, .iload 4, 2), (56, .iconst 4, 1), (57, .invokevirtual 146, 3), (60, .iinc 2 1, 3), (63, .iinc 3 1, 3), (66, .goto (-57), 3), (69, .iload_n 2, 1), (70, .ireturn, 1)]
theorem DX0_movePedal_0_ok : ∀ q ∈ DX0_movePedal_0, decode cX0_movePedal q.1 = .ok (q.2.1, q.2.2) := by decide +kernel
theorem dX0_movePedal_0 : decode cX0_movePedal 0 = .ok (.aload_n 0, 1) := dd_all DX0_movePedal_0_ok 0 rfl
theorem dX0_movePedal_1 : decode cX0_movePedal 1 = .ok (.iload_n 1, 1) := dd_all DX0_movePedal_0_ok 1 rfl
theorem dX0_movePedal_2 : decode cX0_movePedal 2 = .ok (.putfield 69, 3) := dd_all DX0_movePedal_0_ok 2 rfl
theorem dX0_movePedal_5 : decode cX0_movePedal 5 = .ok (.iconst 0, 1) := dd_all DX0_movePedal_0_ok 3 rfl
theorem dX0_movePedal_6 : decode cX0_movePedal 6 = .ok (.istore_n 2, 1) := dd_all DX0_movePedal_0_ok 4 rfl
theorem dX0_movePedal_7 : decode cX0_movePedal 7 = .ok (.iconst 0, 1) := dd_all DX0_movePedal_0_ok 5 rfl
theorem dX0_movePedal_8 : decode cX0_movePedal 8 = .ok (.istore_n 3, 1) := dd_all DX0_movePedal_0_ok 6 rfl
theorem dX0_movePedal_9 : decode cX0_movePedal 9 = .ok (.iload_n 3, 1) := dd_all DX0_movePedal_0_ok 7 rfl
theorem dX0_movePedal_10 : decode cX0_movePedal 10 = .ok (.aload_n 0, 1) := dd_all DX0_movePedal_0_ok 8 rfl
theorem dX0_movePedal_11 : decode cX0_movePedal 11 = .ok (.getfield 23, 3) := dd_all DX0_movePedal_0_ok 9 rfl
theorem dX0_movePedal_14 : decode cX0_movePedal 14 = .ok (.getfield 78, 3) := dd_all DX0_movePedal_0_ok 10 rfl
theorem dX0_movePedal_17 : decode cX0_movePedal 17 = .ok (.if_icmp .ge 52, 3) := dd_all DX0_movePedal_0_ok 11 rfl
theorem dX0_movePedal_20 : decode cX0_movePedal 20 = .ok (.aload_n 0, 1) := dd_all DX0_movePedal_0_ok 12 rfl
theorem dX0_movePedal_21 : decode cX0_movePedal 21 = .ok (.getfield 23, 3) := dd_all DX0_movePedal_0_ok 13 rfl
theorem dX0_movePedal_24 : decode cX0_movePedal 24 = .ok (.iload_n 3, 1) := dd_all DX0_movePedal_0_ok 14 rfl
theorem dX0_movePedal_25 : decode cX0_movePedal 25 = .ok (.invokevirtual 81, 3) := dd_all DX0_movePedal_0_ok 15 rfl
theorem dX0_movePedal_28 : decode cX0_movePedal 28 = .ok (.istore 4, 2) := dd_all DX0_movePedal_0_ok 16 rfl
theorem dX0_movePedal_30 : decode cX0_movePedal 30 = .ok (.iload_n 1, 1) := dd_all DX0_movePedal_0_ok 17 rfl
theorem dX0_movePedal_31 : decode cX0_movePedal 31 = .ok (.ifCond .ne 32, 3) := dd_all DX0_movePedal_0_ok 18 rfl
theorem dX0_movePedal_34 : decode cX0_movePedal 34 = .ok (.aload_n 0, 1) := dd_all DX0_movePedal_0_ok 19 rfl
theorem dX0_movePedal_35 : decode cX0_movePedal 35 = .ok (.getfield 12, 3) := dd_all DX0_movePedal_0_ok 20 rfl
theorem dX0_movePedal_38 : decode cX0_movePedal 38 = .ok (.getfield 104, 3) := dd_all DX0_movePedal_0_ok 21 rfl
theorem dX0_movePedal_41 : decode cX0_movePedal 41 = .ok (.iload 4, 2) := dd_all DX0_movePedal_0_ok 22 rfl
theorem dX0_movePedal_43 : decode cX0_movePedal 43 = .ok (.invokestatic 100, 3) := dd_all DX0_movePedal_0_ok 23 rfl
theorem dX0_movePedal_46 : decode cX0_movePedal 46 = .ok (.iconst 1, 1) := dd_all DX0_movePedal_0_ok 24 rfl
theorem dX0_movePedal_47 : decode cX0_movePedal 47 = .ok (.if_icmp .ne 16, 3) := dd_all DX0_movePedal_0_ok 25 rfl
theorem dX0_movePedal_50 : decode cX0_movePedal 50 = .ok (.aload_n 0, 1) := dd_all DX0_movePedal_0_ok 26 rfl
theorem dX0_movePedal_51 : decode cX0_movePedal 51 = .ok (.getfield 12, 3) := dd_all DX0_movePedal_0_ok 27 rfl
theorem dX0_movePedal_54 : decode cX0_movePedal 54 = .ok (.iload 4, 2) := dd_all DX0_movePedal_0_ok 28 rfl
theorem dX0_movePedal_56 : decode cX0_movePedal 56 = .ok (.iconst 4, 1) := dd_all DX0_movePedal_0_ok 29 rfl
theorem dX0_movePedal_57 : decode cX0_movePedal 57 = .ok (.invokevirtual 146, 3) := dd_all DX0_movePedal_0_ok 30 rfl
theorem dX0_movePedal_60 : decode cX0_movePedal 60 = .ok (.iinc 2 1, 3) := dd_all DX0_movePedal_0_ok 31 rfl
theorem dX0_movePedal_63 : decode cX0_movePedal 63 = .ok (.iinc 3 1, 3) := dd_all DX0_movePedal_0_ok 32 rfl
theorem dX0_movePedal_66 : decode cX0_movePedal 66 = .ok (.goto (-57), 3) := dd_all DX0_movePedal_0_ok 33 rfl
theorem dX0_movePedal_69 : decode cX0_movePedal 69 = .ok (.iload_n 2, 1) := dd_all DX0_movePedal_0_ok 34 rfl
theorem dX0_movePedal_70 : decode cX0_movePedal 70 = .ok (.ireturn, 1) := dd_all DX0_movePedal_0_ok 35 rfl
def DX0_letAllGo_0 : List (Nat × Instr × Nat) := [(0, .aload_n 0, 1), (1, .getfield 30, 3), (4, .iconst 0, 1), (5, .putfield 78, 3), (8, .iconst 0, 1), (9, .istore_n 1, 1), (10, .iload_n 1, 1), (11, .aload_n 0, 1), (12, .getfield 23, 3), (15, .getfield 78, 3), (18, .if_icmp .ge 42, 3), (21, .aload_n 0, 1), (22, .getfield 23, 3), (25, .iload_n 1, 1), (26, .invokevirtual 81, 3), (29, .istore_n 2, 1), (30, .aload_n 0, 1), (31, .getfield 12, 3), (34, .getfield 97, 3), (37, .iload_n 2, 1), (38, .invokestatic 100, 3), (41, .iconst 4, 1), (42, .if_icmp .eq 12, 3), (45, .aload_n 0, 1), (46, .getfield 12, 3), (49, .iload_n 2, 1), (50, .iconst 4, 1), (51, .invokevirtual 146, 3), (54, .iinc 1 1, 3), (57, .goto (-47), 3), (60, .return_, 1)]
theorem DX0_letAllGo_0_ok : ∀ q ∈ DX0_letAllGo_0, decode cX0_letAllGo q.1 = .ok (q.2.1, q.2.2) := by decide +kernel
theorem dX0_letAllGo_0 : decode cX0_letAllGo 0 = .ok (.aload_n 0, 1) := dd_all DX0_letAllGo_0_ok 0 rfl
theorem dX0_letAllGo_1 : decode cX0_letAllGo 1 = .ok (.getfield 30, 3) := dd_all DX0_letAllGo_0_ok 1 rfl
theorem dX0_letAllGo_4 : decode cX0_letAllGo 4 = .ok (.iconst 0, 1) := dd_all DX0_letAllGo_0_ok 2 rfl
theorem dX0_letAllGo_5 : decode cX0_letAllGo 5 = .ok (.putfield 78, 3) := dd_all DX0_letAllGo_0_ok 3 rfl
theorem dX0_letAllGo_8 : decode cX0_letAllGo 8 = .ok (.iconst 0, 1) := dd_all DX0_letAllGo_0_ok 4 rfl
theorem dX0_letAllGo_9 : decode cX0_letAllGo 9 = .ok (.istore_n 1, 1) := dd_all DX0_letAllGo_0_ok 5 rfl
theorem dX0_letAllGo_10 : decode cX0_letAllGo 10 = .ok (.iload_n 1, 1) := dd_all DX0_letAllGo_0_ok 6 rfl
theorem dX0_letAllGo_11 : decode cX0_letAllGo 11 = .ok (.aload_n 0, 1) := dd_all DX0_letAllGo_0_ok 7 rfl
theorem dX0_letAllGo_12 : decode cX0_letAllGo 12 = .ok (.getfield 23, 3) := dd_all DX0_letAllGo_0_ok 8 rfl
theorem dX0_letAllGo_15 : decode cX0_letAllGo 15 = .ok (.getfield 78, 3) := dd_all DX0_letAllGo_0_ok 9 rfl
theorem dX0_letAllGo_18 : decode cX0_letAllGo 18 = .ok (.if_icmp .ge 42, 3) := dd_all DX0_letAllGo_0_ok 10 rfl
theorem dX0_letAllGo_21 : decode cX0_letAllGo 21 = .ok (.aload_n 0, 1) := dd_all DX0_letAllGo_0_ok 11 rfl
theorem dX0_letAllGo_22 : decode cX0_letAllGo 22 = .ok (.getfield 23, 3) := dd_all DX0_letAllGo_0_ok 12 rfl
theorem dX0_letAllGo_25 : decode cX0_letAllGo 25 = .ok (.iload_n 1, 1) := dd_all DX0_letAllGo_0_ok 13 rfl
theorem dX0_letAllGo_26 : decode cX0_letAllGo 26 = .ok (.invokevirtual 81, 3) := dd_all DX0_letAllGo_0_ok 14 rfl
theorem dX0_letAllGo_29 : decode cX0_letAllGo 29 = .ok (.istore_n 2, 1) := dd_all DX0_letAllGo_0_ok 15 rfl
theorem dX0_letAllGo_30 : decode cX0_letAllGo 30 = .ok (.aload_n 0, 1) := dd_all DX0_letAllGo_0_ok 16 rfl
theorem dX0_letAllGo_31 : decode cX0_letAllGo 31 = .ok (.getfield 12, 3) := dd_all DX0_letAllGo_0_ok 17 rfl
theorem dX0_letAllGo_34 : decode cX0_letAllGo 34 = .ok (.getfield 97, 3) := dd_all DX0_letAllGo_0_ok 18 rfl
theorem dX0_letAllGo_37 : decode cX0_letAllGo 37 = .ok (.iload_n 2, 1) := dd_all DX0_letAllGo_0_ok 19 rfl
theorem dX0_letAllGo_38 : decode cX0_letAllGo 38 = .ok (.invokestatic 100, 3) := dd_all DX0_letAllGo_0_ok 20 rfl
theorem dX0_letAllGo_41 : decode cX0_letAllGo 41 = .ok (.iconst 4, 1) := dd_all DX0_letAllGo_0_ok 21 rfl
theorem dX0_letAllGo_42 : decode cX0_letAllGo 42 = .ok (.if_icmp .eq 12, 3) := dd_all DX0_letAllGo_0_ok 22 rfl
theorem dX0_letAllGo_45 : decode cX0_letAllGo 45 = .ok (.aload_n 0, 1) := dd_all DX0_letAllGo_0_ok 23 rfl
theorem dX0_letAllGo_46 : decode cX0_letAllGo 46 = .ok (.getfield 12, 3) := dd_all DX0_letAllGo_0_ok 24 rfl
theorem dX0_letAllGo_49 : decode cX0_letAllGo 49 = .ok (.iload_n 2, 1) := dd_all DX0_letAllGo_0_ok 25 rfl
theorem dX0_letAllGo_50 : decode cX0_letAllGo 50 = .ok (.iconst 4, 1) := dd_all DX0_letAllGo_0_ok 26 rfl
theorem dX0_letAllGo_51 : decode cX0_letAllGo 51 = .ok (.invokevirtual 146, 3) := dd_all DX0_letAllGo_0_ok 27 rfl
theorem dX0_letAllGo_54 : decode cX0_letAllGo 54 = .ok (.iinc 1 1, 3) := dd_all DX0_letAllGo_0_ok 28 rfl
theorem dX0_letAllGo_57 : decode cX0_letAllGo 57 = .ok (.goto (-47), 3) := dd_all DX0_letAllGo_0_ok 29 rfl
theorem dX0_letAllGo_60 : decode cX0_letAllGo 60 = .ok (.return_, 1) := dd_all DX0_letAllGo_0_ok 30 rfl
def DX0_passTick_0 : List (Nat × Instr × Nat) := [(0, .aload_n 0, 1), (1, .dup, 1), (2, .getfield 65, 3), (5, .iconst 1, 1), (6, .iadd, 1), (7, .putfield 65, 3), (10, .aload_n 0, 1), (11, .aload_n 0, 1), (12, .getfield 23, 3), (15, .invokevirtual 160, 3), (18, .aload_n 0, 1), (19, .aload_n 0, 1), (20, .getfield 27, 3), (23, .invokevirtual 160, 3), (26, .aload_n 0, 1), (27, .invokevirtual 163, 3), (30, .return_, 1)]
theorem DX0_passTick_0_ok : ∀ q ∈ DX0_passTick_0, decode cX0_passTick q.1 = .ok (q.2.1, q.2.2) := by decide +kernel
theorem dX0_passTick_0 : decode cX0_passTick 0 = .ok (.aload_n 0, 1) := dd_all DX0_passTick_0_ok 0 rfl
theorem dX0_passTick_1 : decode cX0_passTick 1 = .ok (.dup, 1) := dd_all DX0_passTick_0_ok 1 rfl
theorem dX0_passTick_2 : decode cX0_passTick 2 = .ok (.getfield 65, 3) := dd_all DX0_passTick_0_ok 2 rfl
theorem dX0_passTick_5 : decode cX0_passTick 5 = .ok (.iconst 1, 1) := dd_all DX0_passTick_0_ok 3 rfl
theorem dX0_passTick_6 : decode cX0_passTick 6 = .ok (.iadd, 1) := dd_all DX0_passTick_0_ok 4 rfl
theorem dX0_passTick_7 : decode cX0_passTick 7 = .ok (.putfield 65, 3) := dd_all DX0_passTick_0_ok 5 rfl
theorem dX0_passTick_10 : decode cX0_passTick 10 = .ok (.aload_n 0, 1) := dd_all DX0_passTick_0_ok 6 rfl
theorem dX0_passTick_11 : decode cX0_passTick 11 = .ok (.aload_n 0, 1) := dd_all DX0_passTick_0_ok 7 rfl
theorem dX0_passTick_12 : decode cX0_passTick 12 = .ok (.getfield 23, 3) := dd_all DX0_passTick_0_ok 8 rfl
theorem dX0_passTick_15 : decode cX0_passTick 15 = .ok (.invokevirtual 160, 3) := dd_all DX0_passTick_0_ok 9 rfl
theorem dX0_passTick_18 : decode cX0_passTick 18 = .ok (.aload_n 0, 1) := dd_all DX0_passTick_0_ok 10 rfl
theorem dX0_passTick_19 : decode cX0_passTick 19 = .ok (.aload_n 0, 1) := dd_all DX0_passTick_0_ok 11 rfl
theorem dX0_passTick_20 : decode cX0_passTick 20 = .ok (.getfield 27, 3) := dd_all DX0_passTick_0_ok 12 rfl
theorem dX0_passTick_23 : decode cX0_passTick 23 = .ok (.invokevirtual 160, 3) := dd_all DX0_passTick_0_ok 13 rfl
theorem dX0_passTick_26 : decode cX0_passTick 26 = .ok (.aload_n 0, 1) := dd_all DX0_passTick_0_ok 14 rfl
theorem dX0_passTick_27 : decode cX0_passTick 27 = .ok (.invokevirtual 163, 3) := dd_all DX0_passTick_0_ok 15 rfl
theorem dX0_passTick_30 : decode cX0_passTick 30 = .ok (.return_, 1) := dd_all DX0_passTick_0_ok 16 rfl
def DX0_moveAll_0 : List (Nat × Instr × Nat) := [(0, .aload_n 1, 1), (1, .getfield 78, 3), (4, .iconst 1, 1), (5, .isub, 1), (6, .istore_n 2, 1), (7, .iload_n 2, 1), (8, .ifCond .lt 39, 3), (11, .aload_n 1, 1), (12, .iload_n 2, 1), (13, .invokevirtual 81, 3), (16, .istore_n 3, 1), (17, .aload_n 0, 1), (18, .getfield 12, 3), (21, .iload_n 3, 1), (22, .invokevirtual 166, 3), (25, .aload_n 0, 1), (26, .getfield 12, 3), (29, .iload_n 3, 1), (30, .invokevirtual 169, 3), (33, .ifCond .ne 8, 3), (36, .aload_n 1, 1), (37, .iload_n 3, 1), (38, .invokevirtual 143, 3), (41, .iinc 2 (-1), 3), (44, .goto (-37), 3), (47, .return_, 1)]
theorem DX0_moveAll_0_ok : ∀ q ∈ DX0_moveAll_0, decode cX0_moveAll q.1 = .ok (q.2.1, q.2.2) := by decide +kernel
theorem dX0_moveAll_0 : decode cX0_moveAll 0 = .ok (.aload_n 1, 1) := dd_all DX0_moveAll_0_ok 0 rfl
theorem dX0_moveAll_1 : decode cX0_moveAll 1 = .ok (.getfield 78, 3) := dd_all DX0_moveAll_0_ok 1 rfl
theorem dX0_moveAll_4 : decode cX0_moveAll 4 = .ok (.iconst 1, 1) := dd_all DX0_moveAll_0_ok 2 rfl
theorem dX0_moveAll_5 : decode cX0_moveAll 5 = .ok (.isub, 1) := dd_all DX0_moveAll_0_ok 3 rfl
theorem dX0_moveAll_6 : decode cX0_moveAll 6 = .ok (.istore_n 2, 1) := dd_all DX0_moveAll_0_ok 4 rfl
theorem dX0_moveAll_7 : decode cX0_moveAll 7 = .ok (.iload_n 2, 1) := dd_all DX0_moveAll_0_ok 5 rfl
theorem dX0_moveAll_8 : decode cX0_moveAll 8 = .ok (.ifCond .lt 39, 3) := dd_all DX0_moveAll_0_ok 6 rfl
theorem dX0_moveAll_11 : decode cX0_moveAll 11 = .ok (.aload_n 1, 1) := dd_all DX0_moveAll_0_ok 7 rfl
theorem dX0_moveAll_12 : decode cX0_moveAll 12 = .ok (.iload_n 2, 1) := dd_all DX0_moveAll_0_ok 8 rfl
theorem dX0_moveAll_13 : decode cX0_moveAll 13 = .ok (.invokevirtual 81, 3) := dd_all DX0_moveAll_0_ok 9 rfl
theorem dX0_moveAll_16 : decode cX0_moveAll 16 = .ok (.istore_n 3, 1) := dd_all DX0_moveAll_0_ok 10 rfl
theorem dX0_moveAll_17 : decode cX0_moveAll 17 = .ok (.aload_n 0, 1) := dd_all DX0_moveAll_0_ok 11 rfl
theorem dX0_moveAll_18 : decode cX0_moveAll 18 = .ok (.getfield 12, 3) := dd_all DX0_moveAll_0_ok 12 rfl
theorem dX0_moveAll_21 : decode cX0_moveAll 21 = .ok (.iload_n 3, 1) := dd_all DX0_moveAll_0_ok 13 rfl
theorem dX0_moveAll_22 : decode cX0_moveAll 22 = .ok (.invokevirtual 166, 3) := dd_all DX0_moveAll_0_ok 14 rfl
theorem dX0_moveAll_25 : decode cX0_moveAll 25 = .ok (.aload_n 0, 1) := dd_all DX0_moveAll_0_ok 15 rfl
theorem dX0_moveAll_26 : decode cX0_moveAll 26 = .ok (.getfield 12, 3) := dd_all DX0_moveAll_0_ok 16 rfl
theorem dX0_moveAll_29 : decode cX0_moveAll 29 = .ok (.iload_n 3, 1) := dd_all DX0_moveAll_0_ok 17 rfl
theorem dX0_moveAll_30 : decode cX0_moveAll 30 = .ok (.invokevirtual 169, 3) := dd_all DX0_moveAll_0_ok 18 rfl
theorem dX0_moveAll_33 : decode cX0_moveAll 33 = .ok (.ifCond .ne 8, 3) := dd_all DX0_moveAll_0_ok 19 rfl
theorem dX0_moveAll_36 : decode cX0_moveAll 36 = .ok (.aload_n 1, 1) := dd_all DX0_moveAll_0_ok 20 rfl
theorem dX0_moveAll_37 : decode cX0_moveAll 37 = .ok (.iload_n 3, 1) := dd_all DX0_moveAll_0_ok 21 rfl
theorem dX0_moveAll_38 : decode cX0_moveAll 38 = .ok (.invokevirtual 143, 3) := dd_all DX0_moveAll_0_ok 22 rfl
theorem dX0_moveAll_41 : decode cX0_moveAll 41 = .ok (.iinc 2 (-1), 3) := dd_all DX0_moveAll_0_ok 23 rfl
theorem dX0_moveAll_44 : decode cX0_moveAll 44 = .ok (.goto (-37), 3) := dd_all DX0_moveAll_0_ok 24 rfl
theorem dX0_moveAll_47 : decode cX0_moveAll 47 = .ok (.return_, 1) := dd_all DX0_moveAll_0_ok 25 rfl
def DX0_openDoor_0 : List (Nat × Instr × Nat) := [(0, .iconst 0, 1), (1, .istore_n 1, 1), (2, .iload_n 1, 1), (3, .bipush 6, 2), (5, .if_icmp .ge 113, 3), (8, .aload_n 0, 1), (9, .getfield 30, 3), (12, .getfield 78, 3), (15, .ifCond .le 103, 3), (18, .aload_n 0, 1), (19, .getfield 30, 3), (22, .iconst 0, 1), (23, .invokevirtual 81, 3), (26, .istore_n 2, 1), (27, .aload_n 0, 1), (28, .aload_n 0, 1), (29, .getfield 12, 3), (32, .getfield 173, 3), (35, .iload_n 2, 1), (36, .invokestatic 100, 3), (39, .aload_n 0, 1), (40, .getfield 12, 3), (43, .getfield 176, 3), (46, .iload_n 2, 1), (47, .invokestatic 100, 3), (50, .invokevirtual 93, 3), (53, .istore_n 3, 1), (54, .iload_n 3, 1), (55, .iconst (-1), 1), (56, .if_icmp .ne 11, 3), (59, .aload_n 0, 1), (60, .invokevirtual 119, 3), (63, .ifCond .ne 4, 3), (66, .return_, 1), (67, .aload_n 0, 1), (68, .getfield 30, 3), (71, .iload_n 2, 1), (72, .invokevirtual 143, 3), (75, .iload_n 3, 1), (76, .iconst (-1), 1)]
theorem DX0_openDoor_0_ok : ∀ q ∈ DX0_openDoor_0, decode cX0_openDoor q.1 = .ok (q.2.1, q.2.2) := by decide +kernel
theorem dX0_openDoor_0 : decode cX0_openDoor 0 = .ok (.iconst 0, 1) := dd_all DX0_openDoor_0_ok 0 rfl
theorem dX0_openDoor_1 : decode cX0_openDoor 1 = .ok (.istore_n 1, 1) := dd_all DX0_openDoor_0_ok 1 rfl
theorem dX0_openDoor_2 : decode cX0_openDoor 2 = .ok (.iload_n 1, 1) := dd_all DX0_openDoor_0_ok 2 rfl
theorem dX0_openDoor_3 : decode cX0_openDoor 3 = .ok (.bipush 6, 2) := dd_all DX0_openDoor_0_ok 3 rfl
theorem dX0_openDoor_5 : decode cX0_openDoor 5 = .ok (.if_icmp .ge 113, 3) := dd_all DX0_openDoor_0_ok 4 rfl
theorem dX0_openDoor_8 : decode cX0_openDoor 8 = .ok (.aload_n 0, 1) := dd_all DX0_openDoor_0_ok 5 rfl
theorem dX0_openDoor_9 : decode cX0_openDoor 9 = .ok (.getfield 30, 3) := dd_all DX0_openDoor_0_ok 6 rfl
theorem dX0_openDoor_12 : decode cX0_openDoor 12 = .ok (.getfield 78, 3) := dd_all DX0_openDoor_0_ok 7 rfl
theorem dX0_openDoor_15 : decode cX0_openDoor 15 = .ok (.ifCond .le 103, 3) := dd_all DX0_openDoor_0_ok 8 rfl
theorem dX0_openDoor_18 : decode cX0_openDoor 18 = .ok (.aload_n 0, 1) := dd_all DX0_openDoor_0_ok 9 rfl
theorem dX0_openDoor_19 : decode cX0_openDoor 19 = .ok (.getfield 30, 3) := dd_all DX0_openDoor_0_ok 10 rfl
theorem dX0_openDoor_22 : decode cX0_openDoor 22 = .ok (.iconst 0, 1) := dd_all DX0_openDoor_0_ok 11 rfl
theorem dX0_openDoor_23 : decode cX0_openDoor 23 = .ok (.invokevirtual 81, 3) := dd_all DX0_openDoor_0_ok 12 rfl
theorem dX0_openDoor_26 : decode cX0_openDoor 26 = .ok (.istore_n 2, 1) := dd_all DX0_openDoor_0_ok 13 rfl
theorem dX0_openDoor_27 : decode cX0_openDoor 27 = .ok (.aload_n 0, 1) := dd_all DX0_openDoor_0_ok 14 rfl
theorem dX0_openDoor_28 : decode cX0_openDoor 28 = .ok (.aload_n 0, 1) := dd_all DX0_openDoor_0_ok 15 rfl
theorem dX0_openDoor_29 : decode cX0_openDoor 29 = .ok (.getfield 12, 3) := dd_all DX0_openDoor_0_ok 16 rfl
theorem dX0_openDoor_32 : decode cX0_openDoor 32 = .ok (.getfield 173, 3) := dd_all DX0_openDoor_0_ok 17 rfl
theorem dX0_openDoor_35 : decode cX0_openDoor 35 = .ok (.iload_n 2, 1) := dd_all DX0_openDoor_0_ok 18 rfl
theorem dX0_openDoor_36 : decode cX0_openDoor 36 = .ok (.invokestatic 100, 3) := dd_all DX0_openDoor_0_ok 19 rfl
theorem dX0_openDoor_39 : decode cX0_openDoor 39 = .ok (.aload_n 0, 1) := dd_all DX0_openDoor_0_ok 20 rfl
theorem dX0_openDoor_40 : decode cX0_openDoor 40 = .ok (.getfield 12, 3) := dd_all DX0_openDoor_0_ok 21 rfl
theorem dX0_openDoor_43 : decode cX0_openDoor 43 = .ok (.getfield 176, 3) := dd_all DX0_openDoor_0_ok 22 rfl
theorem dX0_openDoor_46 : decode cX0_openDoor 46 = .ok (.iload_n 2, 1) := dd_all DX0_openDoor_0_ok 23 rfl
theorem dX0_openDoor_47 : decode cX0_openDoor 47 = .ok (.invokestatic 100, 3) := dd_all DX0_openDoor_0_ok 24 rfl
theorem dX0_openDoor_50 : decode cX0_openDoor 50 = .ok (.invokevirtual 93, 3) := dd_all DX0_openDoor_0_ok 25 rfl
theorem dX0_openDoor_53 : decode cX0_openDoor 53 = .ok (.istore_n 3, 1) := dd_all DX0_openDoor_0_ok 26 rfl
theorem dX0_openDoor_54 : decode cX0_openDoor 54 = .ok (.iload_n 3, 1) := dd_all DX0_openDoor_0_ok 27 rfl
theorem dX0_openDoor_55 : decode cX0_openDoor 55 = .ok (.iconst (-1), 1) := dd_all DX0_openDoor_0_ok 28 rfl
theorem dX0_openDoor_56 : decode cX0_openDoor 56 = .ok (.if_icmp .ne 11, 3) := dd_all DX0_openDoor_0_ok 29 rfl
theorem dX0_openDoor_59 : decode cX0_openDoor 59 = .ok (.aload_n 0, 1) := dd_all DX0_openDoor_0_ok 30 rfl
theorem dX0_openDoor_60 : decode cX0_openDoor 60 = .ok (.invokevirtual 119, 3) := dd_all DX0_openDoor_0_ok 31 rfl
theorem dX0_openDoor_63 : decode cX0_openDoor 63 = .ok (.ifCond .ne 4, 3) := dd_all DX0_openDoor_0_ok 32 rfl
theorem dX0_openDoor_66 : decode cX0_openDoor 66 = .ok (.return_, 1) := dd_all DX0_openDoor_0_ok 33 rfl
theorem dX0_openDoor_67 : decode cX0_openDoor 67 = .ok (.aload_n 0, 1) := dd_all DX0_openDoor_0_ok 34 rfl
theorem dX0_openDoor_68 : decode cX0_openDoor 68 = .ok (.getfield 30, 3) := dd_all DX0_openDoor_0_ok 35 rfl
theorem dX0_openDoor_71 : decode cX0_openDoor 71 = .ok (.iload_n 2, 1) := dd_all DX0_openDoor_0_ok 36 rfl
theorem dX0_openDoor_72 : decode cX0_openDoor 72 = .ok (.invokevirtual 143, 3) := dd_all DX0_openDoor_0_ok 37 rfl
theorem dX0_openDoor_75 : decode cX0_openDoor 75 = .ok (.iload_n 3, 1) := dd_all DX0_openDoor_0_ok 38 rfl
theorem dX0_openDoor_76 : decode cX0_openDoor 76 = .ok (.iconst (-1), 1) := dd_all DX0_openDoor_0_ok 39 rfl
def DX0_openDoor_40 : List (Nat × Instr × Nat) := [(77, .if_icmp .ne 11, 3), (80, .aload_n 0, 1), (81, .iload_n 2, 1), (82, .invokevirtual 140, 3), (85, .goto 27, 3), (88, .aload_n 0, 1), (89, .getfield 12, 3), (92, .iload_n 2, 1), (93, .invokevirtual 157, 3), (96, .aload_n 0, 1), (97, .iload_n 3, 1), (98, .aload_n 0, 1), (99, .getfield 12, 3), (102, .getfield 179, 3), (105, .iload_n 2, 1), (106, .invokestatic 100, 3), (109, .invokevirtual 182, 3), (112, .iinc 1 1, 3), (115, .goto (-113), 3), (118, .return_, 1)]
theorem DX0_openDoor_40_ok : ∀ q ∈ DX0_openDoor_40, decode cX0_openDoor q.1 = .ok (q.2.1, q.2.2) := by decide +kernel
theorem dX0_openDoor_77 : decode cX0_openDoor 77 = .ok (.if_icmp .ne 11, 3) := dd_all DX0_openDoor_40_ok 0 rfl
theorem dX0_openDoor_80 : decode cX0_openDoor 80 = .ok (.aload_n 0, 1) := dd_all DX0_openDoor_40_ok 1 rfl
theorem dX0_openDoor_81 : decode cX0_openDoor 81 = .ok (.iload_n 2, 1) := dd_all DX0_openDoor_40_ok 2 rfl
theorem dX0_openDoor_82 : decode cX0_openDoor 82 = .ok (.invokevirtual 140, 3) := dd_all DX0_openDoor_40_ok 3 rfl
theorem dX0_openDoor_85 : decode cX0_openDoor 85 = .ok (.goto 27, 3) := dd_all DX0_openDoor_40_ok 4 rfl
theorem dX0_openDoor_88 : decode cX0_openDoor 88 = .ok (.aload_n 0, 1) := dd_all DX0_openDoor_40_ok 5 rfl
theorem dX0_openDoor_89 : decode cX0_openDoor 89 = .ok (.getfield 12, 3) := dd_all DX0_openDoor_40_ok 6 rfl
theorem dX0_openDoor_92 : decode cX0_openDoor 92 = .ok (.iload_n 2, 1) := dd_all DX0_openDoor_40_ok 7 rfl
theorem dX0_openDoor_93 : decode cX0_openDoor 93 = .ok (.invokevirtual 157, 3) := dd_all DX0_openDoor_40_ok 8 rfl
theorem dX0_openDoor_96 : decode cX0_openDoor 96 = .ok (.aload_n 0, 1) := dd_all DX0_openDoor_40_ok 9 rfl
theorem dX0_openDoor_97 : decode cX0_openDoor 97 = .ok (.iload_n 3, 1) := dd_all DX0_openDoor_40_ok 10 rfl
theorem dX0_openDoor_98 : decode cX0_openDoor 98 = .ok (.aload_n 0, 1) := dd_all DX0_openDoor_40_ok 11 rfl
theorem dX0_openDoor_99 : decode cX0_openDoor 99 = .ok (.getfield 12, 3) := dd_all DX0_openDoor_40_ok 12 rfl
theorem dX0_openDoor_102 : decode cX0_openDoor 102 = .ok (.getfield 179, 3) := dd_all DX0_openDoor_40_ok 13 rfl
theorem dX0_openDoor_105 : decode cX0_openDoor 105 = .ok (.iload_n 2, 1) := dd_all DX0_openDoor_40_ok 14 rfl
theorem dX0_openDoor_106 : decode cX0_openDoor 106 = .ok (.invokestatic 100, 3) := dd_all DX0_openDoor_40_ok 15 rfl
theorem dX0_openDoor_109 : decode cX0_openDoor 109 = .ok (.invokevirtual 182, 3) := dd_all DX0_openDoor_40_ok 16 rfl
theorem dX0_openDoor_112 : decode cX0_openDoor 112 = .ok (.iinc 1 1, 3) := dd_all DX0_openDoor_40_ok 17 rfl
theorem dX0_openDoor_115 : decode cX0_openDoor 115 = .ok (.goto (-113), 3) := dd_all DX0_openDoor_40_ok 18 rfl
theorem dX0_openDoor_118 : decode cX0_openDoor 118 = .ok (.return_, 1) := dd_all DX0_openDoor_40_ok 19 rfl
def DX0_sum_0 : List (Nat × Instr × Nat) := [(0, .iconst 0, 1), (1, .istore_n 1, 1), (2, .iconst 0, 1), (3, .istore_n 2, 1), (4, .iload_n 2, 1), (5, .iconst 4, 1), (6, .if_icmp .ge 31, 3), (9, .iload_n 1, 1), (10, .aload_n 0, 1), (11, .aload_n 0, 1), (12, .getfield 23, 3), (15, .iload_n 2, 1), (16, .invokevirtual 185, 3), (19, .aload_n 0, 1), (20, .aload_n 0, 1), (21, .getfield 27, 3), (24, .iload_n 2, 1), (25, .invokevirtual 185, 3), (28, .iadd, 1), (29, .iadd, 1), (30, .istore_n 1, 1), (31, .iinc 2 1, 3), (34, .goto (-30), 3), (37, .iload_n 1, 1), (38, .ireturn, 1)]
theorem DX0_sum_0_ok : ∀ q ∈ DX0_sum_0, decode cX0_sum q.1 = .ok (q.2.1, q.2.2) := by decide +kernel
theorem dX0_sum_0 : decode cX0_sum 0 = .ok (.iconst 0, 1) := dd_all DX0_sum_0_ok 0 rfl
theorem dX0_sum_1 : decode cX0_sum 1 = .ok (.istore_n 1, 1) := dd_all DX0_sum_0_ok 1 rfl
theorem dX0_sum_2 : decode cX0_sum 2 = .ok (.iconst 0, 1) := dd_all DX0_sum_0_ok 2 rfl
theorem dX0_sum_3 : decode cX0_sum 3 = .ok (.istore_n 2, 1) := dd_all DX0_sum_0_ok 3 rfl
theorem dX0_sum_4 : decode cX0_sum 4 = .ok (.iload_n 2, 1) := dd_all DX0_sum_0_ok 4 rfl
theorem dX0_sum_5 : decode cX0_sum 5 = .ok (.iconst 4, 1) := dd_all DX0_sum_0_ok 5 rfl
theorem dX0_sum_6 : decode cX0_sum 6 = .ok (.if_icmp .ge 31, 3) := dd_all DX0_sum_0_ok 6 rfl
theorem dX0_sum_9 : decode cX0_sum 9 = .ok (.iload_n 1, 1) := dd_all DX0_sum_0_ok 7 rfl
theorem dX0_sum_10 : decode cX0_sum 10 = .ok (.aload_n 0, 1) := dd_all DX0_sum_0_ok 8 rfl
theorem dX0_sum_11 : decode cX0_sum 11 = .ok (.aload_n 0, 1) := dd_all DX0_sum_0_ok 9 rfl
theorem dX0_sum_12 : decode cX0_sum 12 = .ok (.getfield 23, 3) := dd_all DX0_sum_0_ok 10 rfl
theorem dX0_sum_15 : decode cX0_sum 15 = .ok (.iload_n 2, 1) := dd_all DX0_sum_0_ok 11 rfl
theorem dX0_sum_16 : decode cX0_sum 16 = .ok (.invokevirtual 185, 3) := dd_all DX0_sum_0_ok 12 rfl
theorem dX0_sum_19 : decode cX0_sum 19 = .ok (.aload_n 0, 1) := dd_all DX0_sum_0_ok 13 rfl
theorem dX0_sum_20 : decode cX0_sum 20 = .ok (.aload_n 0, 1) := dd_all DX0_sum_0_ok 14 rfl
theorem dX0_sum_21 : decode cX0_sum 21 = .ok (.getfield 27, 3) := dd_all DX0_sum_0_ok 15 rfl
theorem dX0_sum_24 : decode cX0_sum 24 = .ok (.iload_n 2, 1) := dd_all DX0_sum_0_ok 16 rfl
theorem dX0_sum_25 : decode cX0_sum 25 = .ok (.invokevirtual 185, 3) := dd_all DX0_sum_0_ok 17 rfl
theorem dX0_sum_28 : decode cX0_sum 28 = .ok (.iadd, 1) := dd_all DX0_sum_0_ok 18 rfl
theorem dX0_sum_29 : decode cX0_sum 29 = .ok (.iadd, 1) := dd_all DX0_sum_0_ok 19 rfl
theorem dX0_sum_30 : decode cX0_sum 30 = .ok (.istore_n 1, 1) := dd_all DX0_sum_0_ok 20 rfl
theorem dX0_sum_31 : decode cX0_sum 31 = .ok (.iinc 2 1, 3) := dd_all DX0_sum_0_ok 21 rfl
theorem dX0_sum_34 : decode cX0_sum 34 = .ok (.goto (-30), 3) := dd_all DX0_sum_0_ok 22 rfl
theorem dX0_sum_37 : decode cX0_sum 37 = .ok (.iload_n 1, 1) := dd_all DX0_sum_0_ok 23 rfl
theorem dX0_sum_38 : decode cX0_sum 38 = .ok (.ireturn, 1) := dd_all DX0_sum_0_ok 24 rfl
def DX0_levelsOf_0 : List (Nat × Instr × Nat) := [(0, .iconst 0, 1), (1, .istore_n 3, 1), (2, .iconst 0, 1), (3, .istore 4, 2), (5, .iload 4, 2), (7, .aload_n 1, 1), (8, .getfield 78, 3), (11, .if_icmp .ge 52, 3), (14, .aload_n 1, 1), (15, .iload 4, 2), (17, .invokevirtual 81, 3), (20, .istore 5, 2), (22, .iload_n 3, 1), (23, .aload_n 0, 1), (24, .getfield 12, 3), (27, .getfield 173, 3), (30, .iload 5, 2), (32, .invokestatic 100, 3), (35, .iload_n 2, 1), (36, .if_icmp .ne 18, 3), (39, .aload_n 0, 1), (40, .getfield 12, 3), (43, .getfield 116, 3), (46, .iload 5, 2), (48, .invokestatic 100, 3), (51, .goto 4, 3), (54, .iconst 0, 1), (55, .iadd, 1), (56, .istore_n 3, 1), (57, .iinc 4 1, 3), (60, .goto (-55), 3), (63, .iload_n 3, 1), (64, .ireturn, 1)]
theorem DX0_levelsOf_0_ok : ∀ q ∈ DX0_levelsOf_0, decode cX0_levelsOf q.1 = .ok (q.2.1, q.2.2) := by decide +kernel
theorem dX0_levelsOf_0 : decode cX0_levelsOf 0 = .ok (.iconst 0, 1) := dd_all DX0_levelsOf_0_ok 0 rfl
theorem dX0_levelsOf_1 : decode cX0_levelsOf 1 = .ok (.istore_n 3, 1) := dd_all DX0_levelsOf_0_ok 1 rfl
theorem dX0_levelsOf_2 : decode cX0_levelsOf 2 = .ok (.iconst 0, 1) := dd_all DX0_levelsOf_0_ok 2 rfl
theorem dX0_levelsOf_3 : decode cX0_levelsOf 3 = .ok (.istore 4, 2) := dd_all DX0_levelsOf_0_ok 3 rfl
theorem dX0_levelsOf_5 : decode cX0_levelsOf 5 = .ok (.iload 4, 2) := dd_all DX0_levelsOf_0_ok 4 rfl
theorem dX0_levelsOf_7 : decode cX0_levelsOf 7 = .ok (.aload_n 1, 1) := dd_all DX0_levelsOf_0_ok 5 rfl
theorem dX0_levelsOf_8 : decode cX0_levelsOf 8 = .ok (.getfield 78, 3) := dd_all DX0_levelsOf_0_ok 6 rfl
theorem dX0_levelsOf_11 : decode cX0_levelsOf 11 = .ok (.if_icmp .ge 52, 3) := dd_all DX0_levelsOf_0_ok 7 rfl
theorem dX0_levelsOf_14 : decode cX0_levelsOf 14 = .ok (.aload_n 1, 1) := dd_all DX0_levelsOf_0_ok 8 rfl
theorem dX0_levelsOf_15 : decode cX0_levelsOf 15 = .ok (.iload 4, 2) := dd_all DX0_levelsOf_0_ok 9 rfl
theorem dX0_levelsOf_17 : decode cX0_levelsOf 17 = .ok (.invokevirtual 81, 3) := dd_all DX0_levelsOf_0_ok 10 rfl
theorem dX0_levelsOf_20 : decode cX0_levelsOf 20 = .ok (.istore 5, 2) := dd_all DX0_levelsOf_0_ok 11 rfl
theorem dX0_levelsOf_22 : decode cX0_levelsOf 22 = .ok (.iload_n 3, 1) := dd_all DX0_levelsOf_0_ok 12 rfl
theorem dX0_levelsOf_23 : decode cX0_levelsOf 23 = .ok (.aload_n 0, 1) := dd_all DX0_levelsOf_0_ok 13 rfl
theorem dX0_levelsOf_24 : decode cX0_levelsOf 24 = .ok (.getfield 12, 3) := dd_all DX0_levelsOf_0_ok 14 rfl
theorem dX0_levelsOf_27 : decode cX0_levelsOf 27 = .ok (.getfield 173, 3) := dd_all DX0_levelsOf_0_ok 15 rfl
theorem dX0_levelsOf_30 : decode cX0_levelsOf 30 = .ok (.iload 5, 2) := dd_all DX0_levelsOf_0_ok 16 rfl
theorem dX0_levelsOf_32 : decode cX0_levelsOf 32 = .ok (.invokestatic 100, 3) := dd_all DX0_levelsOf_0_ok 17 rfl
theorem dX0_levelsOf_35 : decode cX0_levelsOf 35 = .ok (.iload_n 2, 1) := dd_all DX0_levelsOf_0_ok 18 rfl
theorem dX0_levelsOf_36 : decode cX0_levelsOf 36 = .ok (.if_icmp .ne 18, 3) := dd_all DX0_levelsOf_0_ok 19 rfl
theorem dX0_levelsOf_39 : decode cX0_levelsOf 39 = .ok (.aload_n 0, 1) := dd_all DX0_levelsOf_0_ok 20 rfl
theorem dX0_levelsOf_40 : decode cX0_levelsOf 40 = .ok (.getfield 12, 3) := dd_all DX0_levelsOf_0_ok 21 rfl
theorem dX0_levelsOf_43 : decode cX0_levelsOf 43 = .ok (.getfield 116, 3) := dd_all DX0_levelsOf_0_ok 22 rfl
theorem dX0_levelsOf_46 : decode cX0_levelsOf 46 = .ok (.iload 5, 2) := dd_all DX0_levelsOf_0_ok 23 rfl
theorem dX0_levelsOf_48 : decode cX0_levelsOf 48 = .ok (.invokestatic 100, 3) := dd_all DX0_levelsOf_0_ok 24 rfl
theorem dX0_levelsOf_51 : decode cX0_levelsOf 51 = .ok (.goto 4, 3) := dd_all DX0_levelsOf_0_ok 25 rfl
theorem dX0_levelsOf_54 : decode cX0_levelsOf 54 = .ok (.iconst 0, 1) := dd_all DX0_levelsOf_0_ok 26 rfl
theorem dX0_levelsOf_55 : decode cX0_levelsOf 55 = .ok (.iadd, 1) := dd_all DX0_levelsOf_0_ok 27 rfl
theorem dX0_levelsOf_56 : decode cX0_levelsOf 56 = .ok (.istore_n 3, 1) := dd_all DX0_levelsOf_0_ok 28 rfl
theorem dX0_levelsOf_57 : decode cX0_levelsOf 57 = .ok (.iinc 4 1, 3) := dd_all DX0_levelsOf_0_ok 29 rfl
theorem dX0_levelsOf_60 : decode cX0_levelsOf 60 = .ok (.goto (-55), 3) := dd_all DX0_levelsOf_0_ok 30 rfl
theorem dX0_levelsOf_63 : decode cX0_levelsOf 63 = .ok (.iload_n 3, 1) := dd_all DX0_levelsOf_0_ok 31 rfl
theorem dX0_levelsOf_64 : decode cX0_levelsOf 64 = .ok (.ireturn, 1) := dd_all DX0_levelsOf_0_ok 32 rfl
def DX0_howManyOf_0 : List (Nat × Instr × Nat) := [(0, .iconst 0, 1), (1, .istore_n 3, 1), (2, .iconst 0, 1), (3, .istore 4, 2), (5, .iload 4, 2), (7, .aload_n 1, 1), (8, .getfield 78, 3), (11, .if_icmp .ge 37, 3), (14, .iload_n 3, 1), (15, .aload_n 0, 1), (16, .getfield 12, 3), (19, .getfield 173, 3), (22, .aload_n 1, 1), (23, .iload 4, 2), (25, .invokevirtual 81, 3), (28, .invokestatic 100, 3), (31, .iload_n 2, 1), (32, .if_icmp .ne 7, 3), (35, .iconst 1, 1), (36, .goto 4, 3), (39, .iconst 0, 1), (40, .iadd, 1), (41, .istore_n 3, 1), (42, .iinc 4 1, 3), (45, .goto (-40), 3), (48, .iload_n 3, 1), (49, .ireturn, 1)]
theorem DX0_howManyOf_0_ok : ∀ q ∈ DX0_howManyOf_0, decode cX0_howManyOf q.1 = .ok (q.2.1, q.2.2) := by decide +kernel
theorem dX0_howManyOf_0 : decode cX0_howManyOf 0 = .ok (.iconst 0, 1) := dd_all DX0_howManyOf_0_ok 0 rfl
theorem dX0_howManyOf_1 : decode cX0_howManyOf 1 = .ok (.istore_n 3, 1) := dd_all DX0_howManyOf_0_ok 1 rfl
theorem dX0_howManyOf_2 : decode cX0_howManyOf 2 = .ok (.iconst 0, 1) := dd_all DX0_howManyOf_0_ok 2 rfl
theorem dX0_howManyOf_3 : decode cX0_howManyOf 3 = .ok (.istore 4, 2) := dd_all DX0_howManyOf_0_ok 3 rfl
theorem dX0_howManyOf_5 : decode cX0_howManyOf 5 = .ok (.iload 4, 2) := dd_all DX0_howManyOf_0_ok 4 rfl
theorem dX0_howManyOf_7 : decode cX0_howManyOf 7 = .ok (.aload_n 1, 1) := dd_all DX0_howManyOf_0_ok 5 rfl
theorem dX0_howManyOf_8 : decode cX0_howManyOf 8 = .ok (.getfield 78, 3) := dd_all DX0_howManyOf_0_ok 6 rfl
theorem dX0_howManyOf_11 : decode cX0_howManyOf 11 = .ok (.if_icmp .ge 37, 3) := dd_all DX0_howManyOf_0_ok 7 rfl
theorem dX0_howManyOf_14 : decode cX0_howManyOf 14 = .ok (.iload_n 3, 1) := dd_all DX0_howManyOf_0_ok 8 rfl
theorem dX0_howManyOf_15 : decode cX0_howManyOf 15 = .ok (.aload_n 0, 1) := dd_all DX0_howManyOf_0_ok 9 rfl
theorem dX0_howManyOf_16 : decode cX0_howManyOf 16 = .ok (.getfield 12, 3) := dd_all DX0_howManyOf_0_ok 10 rfl
theorem dX0_howManyOf_19 : decode cX0_howManyOf 19 = .ok (.getfield 173, 3) := dd_all DX0_howManyOf_0_ok 11 rfl
theorem dX0_howManyOf_22 : decode cX0_howManyOf 22 = .ok (.aload_n 1, 1) := dd_all DX0_howManyOf_0_ok 12 rfl
theorem dX0_howManyOf_23 : decode cX0_howManyOf 23 = .ok (.iload 4, 2) := dd_all DX0_howManyOf_0_ok 13 rfl
theorem dX0_howManyOf_25 : decode cX0_howManyOf 25 = .ok (.invokevirtual 81, 3) := dd_all DX0_howManyOf_0_ok 14 rfl
theorem dX0_howManyOf_28 : decode cX0_howManyOf 28 = .ok (.invokestatic 100, 3) := dd_all DX0_howManyOf_0_ok 15 rfl
theorem dX0_howManyOf_31 : decode cX0_howManyOf 31 = .ok (.iload_n 2, 1) := dd_all DX0_howManyOf_0_ok 16 rfl
theorem dX0_howManyOf_32 : decode cX0_howManyOf 32 = .ok (.if_icmp .ne 7, 3) := dd_all DX0_howManyOf_0_ok 17 rfl
theorem dX0_howManyOf_35 : decode cX0_howManyOf 35 = .ok (.iconst 1, 1) := dd_all DX0_howManyOf_0_ok 18 rfl
theorem dX0_howManyOf_36 : decode cX0_howManyOf 36 = .ok (.goto 4, 3) := dd_all DX0_howManyOf_0_ok 19 rfl
theorem dX0_howManyOf_39 : decode cX0_howManyOf 39 = .ok (.iconst 0, 1) := dd_all DX0_howManyOf_0_ok 20 rfl
theorem dX0_howManyOf_40 : decode cX0_howManyOf 40 = .ok (.iadd, 1) := dd_all DX0_howManyOf_0_ok 21 rfl
theorem dX0_howManyOf_41 : decode cX0_howManyOf 41 = .ok (.istore_n 3, 1) := dd_all DX0_howManyOf_0_ok 22 rfl
theorem dX0_howManyOf_42 : decode cX0_howManyOf 42 = .ok (.iinc 4 1, 3) := dd_all DX0_howManyOf_0_ok 23 rfl
theorem dX0_howManyOf_45 : decode cX0_howManyOf 45 = .ok (.goto (-40), 3) := dd_all DX0_howManyOf_0_ok 24 rfl
theorem dX0_howManyOf_48 : decode cX0_howManyOf 48 = .ok (.iload_n 3, 1) := dd_all DX0_howManyOf_0_ok 25 rfl
theorem dX0_howManyOf_49 : decode cX0_howManyOf 49 = .ok (.ireturn, 1) := dd_all DX0_howManyOf_0_ok 26 rfl
def DX0_heardOfNote_0 : List (Nat × Instr × Nat) := [(0, .aload_n 0, 1), (1, .getfield 33, 3), (4, .iconst 2, 1), (5, .invokestatic 100, 3), (8, .istore_n 3, 1), (9, .aload_n 0, 1), (10, .getfield 12, 3), (13, .getfield 116, 3), (16, .iload_n 1, 1), (17, .invokestatic 100, 3), (20, .istore 4, 2), (22, .iload_n 2, 1), (23, .iload_n 3, 1), (24, .if_icmp .le 7, 3), (27, .iload_n 2, 1), (28, .ifCond .gt 8, 3), (31, .iload 4, 2), (33, .goto 9, 3), (36, .iload 4, 2), (38, .iload_n 3, 1), (39, .imul, 1), (40, .iload_n 2, 1), (41, .idiv, 1), (42, .ireturn, 1)]
theorem DX0_heardOfNote_0_ok : ∀ q ∈ DX0_heardOfNote_0, decode cX0_heardOfNote q.1 = .ok (q.2.1, q.2.2) := by decide +kernel
theorem dX0_heardOfNote_0 : decode cX0_heardOfNote 0 = .ok (.aload_n 0, 1) := dd_all DX0_heardOfNote_0_ok 0 rfl
theorem dX0_heardOfNote_1 : decode cX0_heardOfNote 1 = .ok (.getfield 33, 3) := dd_all DX0_heardOfNote_0_ok 1 rfl
theorem dX0_heardOfNote_4 : decode cX0_heardOfNote 4 = .ok (.iconst 2, 1) := dd_all DX0_heardOfNote_0_ok 2 rfl
theorem dX0_heardOfNote_5 : decode cX0_heardOfNote 5 = .ok (.invokestatic 100, 3) := dd_all DX0_heardOfNote_0_ok 3 rfl
theorem dX0_heardOfNote_8 : decode cX0_heardOfNote 8 = .ok (.istore_n 3, 1) := dd_all DX0_heardOfNote_0_ok 4 rfl
theorem dX0_heardOfNote_9 : decode cX0_heardOfNote 9 = .ok (.aload_n 0, 1) := dd_all DX0_heardOfNote_0_ok 5 rfl
theorem dX0_heardOfNote_10 : decode cX0_heardOfNote 10 = .ok (.getfield 12, 3) := dd_all DX0_heardOfNote_0_ok 6 rfl
theorem dX0_heardOfNote_13 : decode cX0_heardOfNote 13 = .ok (.getfield 116, 3) := dd_all DX0_heardOfNote_0_ok 7 rfl
theorem dX0_heardOfNote_16 : decode cX0_heardOfNote 16 = .ok (.iload_n 1, 1) := dd_all DX0_heardOfNote_0_ok 8 rfl
theorem dX0_heardOfNote_17 : decode cX0_heardOfNote 17 = .ok (.invokestatic 100, 3) := dd_all DX0_heardOfNote_0_ok 9 rfl
theorem dX0_heardOfNote_20 : decode cX0_heardOfNote 20 = .ok (.istore 4, 2) := dd_all DX0_heardOfNote_0_ok 10 rfl
theorem dX0_heardOfNote_22 : decode cX0_heardOfNote 22 = .ok (.iload_n 2, 1) := dd_all DX0_heardOfNote_0_ok 11 rfl
theorem dX0_heardOfNote_23 : decode cX0_heardOfNote 23 = .ok (.iload_n 3, 1) := dd_all DX0_heardOfNote_0_ok 12 rfl
theorem dX0_heardOfNote_24 : decode cX0_heardOfNote 24 = .ok (.if_icmp .le 7, 3) := dd_all DX0_heardOfNote_0_ok 13 rfl
theorem dX0_heardOfNote_27 : decode cX0_heardOfNote 27 = .ok (.iload_n 2, 1) := dd_all DX0_heardOfNote_0_ok 14 rfl
theorem dX0_heardOfNote_28 : decode cX0_heardOfNote 28 = .ok (.ifCond .gt 8, 3) := dd_all DX0_heardOfNote_0_ok 15 rfl
theorem dX0_heardOfNote_31 : decode cX0_heardOfNote 31 = .ok (.iload 4, 2) := dd_all DX0_heardOfNote_0_ok 16 rfl
theorem dX0_heardOfNote_33 : decode cX0_heardOfNote 33 = .ok (.goto 9, 3) := dd_all DX0_heardOfNote_0_ok 17 rfl
theorem dX0_heardOfNote_36 : decode cX0_heardOfNote 36 = .ok (.iload 4, 2) := dd_all DX0_heardOfNote_0_ok 18 rfl
theorem dX0_heardOfNote_38 : decode cX0_heardOfNote 38 = .ok (.iload_n 3, 1) := dd_all DX0_heardOfNote_0_ok 19 rfl
theorem dX0_heardOfNote_39 : decode cX0_heardOfNote 39 = .ok (.imul, 1) := dd_all DX0_heardOfNote_0_ok 20 rfl
theorem dX0_heardOfNote_40 : decode cX0_heardOfNote 40 = .ok (.iload_n 2, 1) := dd_all DX0_heardOfNote_0_ok 21 rfl
theorem dX0_heardOfNote_41 : decode cX0_heardOfNote 41 = .ok (.idiv, 1) := dd_all DX0_heardOfNote_0_ok 22 rfl
theorem dX0_heardOfNote_42 : decode cX0_heardOfNote 42 = .ok (.ireturn, 1) := dd_all DX0_heardOfNote_0_ok 23 rfl
def DX0_heardOfLine_0 : List (Nat × Instr × Nat) := [(0, .iconst 0, 1), (1, .istore 4, 2), (3, .iconst 0, 1), (4, .istore 5, 2), (6, .iload 5, 2), (8, .aload_n 1, 1), (9, .getfield 78, 3), (12, .if_icmp .ge 49, 3), (15, .aload_n 1, 1), (16, .iload 5, 2), (18, .invokevirtual 81, 3), (21, .istore 6, 2), (23, .iload 4, 2), (25, .aload_n 0, 1), (26, .getfield 12, 3), (29, .getfield 173, 3), (32, .iload 6, 2), (34, .invokestatic 100, 3), (37, .iload_n 2, 1), (38, .if_icmp .ne 13, 3), (41, .aload_n 0, 1), (42, .iload 6, 2), (44, .iload_n 3, 1), (45, .invokevirtual 189, 3), (48, .goto 4, 3), (51, .iconst 0, 1), (52, .iadd, 1), (53, .istore 4, 2), (55, .iinc 5 1, 3), (58, .goto (-52), 3), (61, .iload 4, 2), (63, .ireturn, 1)]
theorem DX0_heardOfLine_0_ok : ∀ q ∈ DX0_heardOfLine_0, decode cX0_heardOfLine q.1 = .ok (q.2.1, q.2.2) := by decide +kernel
theorem dX0_heardOfLine_0 : decode cX0_heardOfLine 0 = .ok (.iconst 0, 1) := dd_all DX0_heardOfLine_0_ok 0 rfl
theorem dX0_heardOfLine_1 : decode cX0_heardOfLine 1 = .ok (.istore 4, 2) := dd_all DX0_heardOfLine_0_ok 1 rfl
theorem dX0_heardOfLine_3 : decode cX0_heardOfLine 3 = .ok (.iconst 0, 1) := dd_all DX0_heardOfLine_0_ok 2 rfl
theorem dX0_heardOfLine_4 : decode cX0_heardOfLine 4 = .ok (.istore 5, 2) := dd_all DX0_heardOfLine_0_ok 3 rfl
theorem dX0_heardOfLine_6 : decode cX0_heardOfLine 6 = .ok (.iload 5, 2) := dd_all DX0_heardOfLine_0_ok 4 rfl
theorem dX0_heardOfLine_8 : decode cX0_heardOfLine 8 = .ok (.aload_n 1, 1) := dd_all DX0_heardOfLine_0_ok 5 rfl
theorem dX0_heardOfLine_9 : decode cX0_heardOfLine 9 = .ok (.getfield 78, 3) := dd_all DX0_heardOfLine_0_ok 6 rfl
theorem dX0_heardOfLine_12 : decode cX0_heardOfLine 12 = .ok (.if_icmp .ge 49, 3) := dd_all DX0_heardOfLine_0_ok 7 rfl
theorem dX0_heardOfLine_15 : decode cX0_heardOfLine 15 = .ok (.aload_n 1, 1) := dd_all DX0_heardOfLine_0_ok 8 rfl
theorem dX0_heardOfLine_16 : decode cX0_heardOfLine 16 = .ok (.iload 5, 2) := dd_all DX0_heardOfLine_0_ok 9 rfl
theorem dX0_heardOfLine_18 : decode cX0_heardOfLine 18 = .ok (.invokevirtual 81, 3) := dd_all DX0_heardOfLine_0_ok 10 rfl
theorem dX0_heardOfLine_21 : decode cX0_heardOfLine 21 = .ok (.istore 6, 2) := dd_all DX0_heardOfLine_0_ok 11 rfl
theorem dX0_heardOfLine_23 : decode cX0_heardOfLine 23 = .ok (.iload 4, 2) := dd_all DX0_heardOfLine_0_ok 12 rfl
theorem dX0_heardOfLine_25 : decode cX0_heardOfLine 25 = .ok (.aload_n 0, 1) := dd_all DX0_heardOfLine_0_ok 13 rfl
theorem dX0_heardOfLine_26 : decode cX0_heardOfLine 26 = .ok (.getfield 12, 3) := dd_all DX0_heardOfLine_0_ok 14 rfl
theorem dX0_heardOfLine_29 : decode cX0_heardOfLine 29 = .ok (.getfield 173, 3) := dd_all DX0_heardOfLine_0_ok 15 rfl
theorem dX0_heardOfLine_32 : decode cX0_heardOfLine 32 = .ok (.iload 6, 2) := dd_all DX0_heardOfLine_0_ok 16 rfl
theorem dX0_heardOfLine_34 : decode cX0_heardOfLine 34 = .ok (.invokestatic 100, 3) := dd_all DX0_heardOfLine_0_ok 17 rfl
theorem dX0_heardOfLine_37 : decode cX0_heardOfLine 37 = .ok (.iload_n 2, 1) := dd_all DX0_heardOfLine_0_ok 18 rfl
theorem dX0_heardOfLine_38 : decode cX0_heardOfLine 38 = .ok (.if_icmp .ne 13, 3) := dd_all DX0_heardOfLine_0_ok 19 rfl
theorem dX0_heardOfLine_41 : decode cX0_heardOfLine 41 = .ok (.aload_n 0, 1) := dd_all DX0_heardOfLine_0_ok 20 rfl
theorem dX0_heardOfLine_42 : decode cX0_heardOfLine 42 = .ok (.iload 6, 2) := dd_all DX0_heardOfLine_0_ok 21 rfl
theorem dX0_heardOfLine_44 : decode cX0_heardOfLine 44 = .ok (.iload_n 3, 1) := dd_all DX0_heardOfLine_0_ok 22 rfl
theorem dX0_heardOfLine_45 : decode cX0_heardOfLine 45 = .ok (.invokevirtual 189, 3) := dd_all DX0_heardOfLine_0_ok 23 rfl
theorem dX0_heardOfLine_48 : decode cX0_heardOfLine 48 = .ok (.goto 4, 3) := dd_all DX0_heardOfLine_0_ok 24 rfl
theorem dX0_heardOfLine_51 : decode cX0_heardOfLine 51 = .ok (.iconst 0, 1) := dd_all DX0_heardOfLine_0_ok 25 rfl
theorem dX0_heardOfLine_52 : decode cX0_heardOfLine 52 = .ok (.iadd, 1) := dd_all DX0_heardOfLine_0_ok 26 rfl
theorem dX0_heardOfLine_53 : decode cX0_heardOfLine 53 = .ok (.istore 4, 2) := dd_all DX0_heardOfLine_0_ok 27 rfl
theorem dX0_heardOfLine_55 : decode cX0_heardOfLine 55 = .ok (.iinc 5 1, 3) := dd_all DX0_heardOfLine_0_ok 28 rfl
theorem dX0_heardOfLine_58 : decode cX0_heardOfLine 58 = .ok (.goto (-52), 3) := dd_all DX0_heardOfLine_0_ok 29 rfl
theorem dX0_heardOfLine_61 : decode cX0_heardOfLine 61 = .ok (.iload 4, 2) := dd_all DX0_heardOfLine_0_ok 30 rfl
theorem dX0_heardOfLine_63 : decode cX0_heardOfLine 63 = .ok (.ireturn, 1) := dd_all DX0_heardOfLine_0_ok 31 rfl
def DX0_heardOfPart_0 : List (Nat × Instr × Nat) := [(0, .aload_n 0, 1), (1, .invokevirtual 192, 3), (4, .istore_n 2, 1), (5, .aload_n 0, 1), (6, .aload_n 0, 1), (7, .getfield 23, 3), (10, .iload_n 1, 1), (11, .iload_n 2, 1), (12, .invokevirtual 195, 3), (15, .aload_n 0, 1), (16, .aload_n 0, 1), (17, .getfield 27, 3), (20, .iload_n 1, 1), (21, .iload_n 2, 1), (22, .invokevirtual 195, 3), (25, .iadd, 1), (26, .ireturn, 1)]
theorem DX0_heardOfPart_0_ok : ∀ q ∈ DX0_heardOfPart_0, decode cX0_heardOfPart q.1 = .ok (q.2.1, q.2.2) := by decide +kernel
theorem dX0_heardOfPart_0 : decode cX0_heardOfPart 0 = .ok (.aload_n 0, 1) := dd_all DX0_heardOfPart_0_ok 0 rfl
theorem dX0_heardOfPart_1 : decode cX0_heardOfPart 1 = .ok (.invokevirtual 192, 3) := dd_all DX0_heardOfPart_0_ok 1 rfl
theorem dX0_heardOfPart_4 : decode cX0_heardOfPart 4 = .ok (.istore_n 2, 1) := dd_all DX0_heardOfPart_0_ok 2 rfl
theorem dX0_heardOfPart_5 : decode cX0_heardOfPart 5 = .ok (.aload_n 0, 1) := dd_all DX0_heardOfPart_0_ok 3 rfl
theorem dX0_heardOfPart_6 : decode cX0_heardOfPart 6 = .ok (.aload_n 0, 1) := dd_all DX0_heardOfPart_0_ok 4 rfl
theorem dX0_heardOfPart_7 : decode cX0_heardOfPart 7 = .ok (.getfield 23, 3) := dd_all DX0_heardOfPart_0_ok 5 rfl
theorem dX0_heardOfPart_10 : decode cX0_heardOfPart 10 = .ok (.iload_n 1, 1) := dd_all DX0_heardOfPart_0_ok 6 rfl
theorem dX0_heardOfPart_11 : decode cX0_heardOfPart 11 = .ok (.iload_n 2, 1) := dd_all DX0_heardOfPart_0_ok 7 rfl
theorem dX0_heardOfPart_12 : decode cX0_heardOfPart 12 = .ok (.invokevirtual 195, 3) := dd_all DX0_heardOfPart_0_ok 8 rfl
theorem dX0_heardOfPart_15 : decode cX0_heardOfPart 15 = .ok (.aload_n 0, 1) := dd_all DX0_heardOfPart_0_ok 9 rfl
theorem dX0_heardOfPart_16 : decode cX0_heardOfPart 16 = .ok (.aload_n 0, 1) := dd_all DX0_heardOfPart_0_ok 10 rfl
theorem dX0_heardOfPart_17 : decode cX0_heardOfPart 17 = .ok (.getfield 27, 3) := dd_all DX0_heardOfPart_0_ok 11 rfl
theorem dX0_heardOfPart_20 : decode cX0_heardOfPart 20 = .ok (.iload_n 1, 1) := dd_all DX0_heardOfPart_0_ok 12 rfl
theorem dX0_heardOfPart_21 : decode cX0_heardOfPart 21 = .ok (.iload_n 2, 1) := dd_all DX0_heardOfPart_0_ok 13 rfl
theorem dX0_heardOfPart_22 : decode cX0_heardOfPart 22 = .ok (.invokevirtual 195, 3) := dd_all DX0_heardOfPart_0_ok 14 rfl
theorem dX0_heardOfPart_25 : decode cX0_heardOfPart 25 = .ok (.iadd, 1) := dd_all DX0_heardOfPart_0_ok 15 rfl
theorem dX0_heardOfPart_26 : decode cX0_heardOfPart 26 = .ok (.ireturn, 1) := dd_all DX0_heardOfPart_0_ok 16 rfl
def DX0_heardOfAll_0 : List (Nat × Instr × Nat) := [(0, .iconst 0, 1), (1, .istore_n 1, 1), (2, .iconst 0, 1), (3, .istore_n 2, 1), (4, .iload_n 2, 1), (5, .iconst 4, 1), (6, .if_icmp .ge 17, 3), (9, .iload_n 1, 1), (10, .aload_n 0, 1), (11, .iload_n 2, 1), (12, .invokevirtual 198, 3), (15, .iadd, 1), (16, .istore_n 1, 1), (17, .iinc 2 1, 3), (20, .goto (-16), 3), (23, .iload_n 1, 1), (24, .ireturn, 1)]
theorem DX0_heardOfAll_0_ok : ∀ q ∈ DX0_heardOfAll_0, decode cX0_heardOfAll q.1 = .ok (q.2.1, q.2.2) := by decide +kernel
theorem dX0_heardOfAll_0 : decode cX0_heardOfAll 0 = .ok (.iconst 0, 1) := dd_all DX0_heardOfAll_0_ok 0 rfl
theorem dX0_heardOfAll_1 : decode cX0_heardOfAll 1 = .ok (.istore_n 1, 1) := dd_all DX0_heardOfAll_0_ok 1 rfl
theorem dX0_heardOfAll_2 : decode cX0_heardOfAll 2 = .ok (.iconst 0, 1) := dd_all DX0_heardOfAll_0_ok 2 rfl
theorem dX0_heardOfAll_3 : decode cX0_heardOfAll 3 = .ok (.istore_n 2, 1) := dd_all DX0_heardOfAll_0_ok 3 rfl
theorem dX0_heardOfAll_4 : decode cX0_heardOfAll 4 = .ok (.iload_n 2, 1) := dd_all DX0_heardOfAll_0_ok 4 rfl
theorem dX0_heardOfAll_5 : decode cX0_heardOfAll 5 = .ok (.iconst 4, 1) := dd_all DX0_heardOfAll_0_ok 5 rfl
theorem dX0_heardOfAll_6 : decode cX0_heardOfAll 6 = .ok (.if_icmp .ge 17, 3) := dd_all DX0_heardOfAll_0_ok 6 rfl
theorem dX0_heardOfAll_9 : decode cX0_heardOfAll 9 = .ok (.iload_n 1, 1) := dd_all DX0_heardOfAll_0_ok 7 rfl
theorem dX0_heardOfAll_10 : decode cX0_heardOfAll 10 = .ok (.aload_n 0, 1) := dd_all DX0_heardOfAll_0_ok 8 rfl
theorem dX0_heardOfAll_11 : decode cX0_heardOfAll 11 = .ok (.iload_n 2, 1) := dd_all DX0_heardOfAll_0_ok 9 rfl
theorem dX0_heardOfAll_12 : decode cX0_heardOfAll 12 = .ok (.invokevirtual 198, 3) := dd_all DX0_heardOfAll_0_ok 10 rfl
theorem dX0_heardOfAll_15 : decode cX0_heardOfAll 15 = .ok (.iadd, 1) := dd_all DX0_heardOfAll_0_ok 11 rfl
theorem dX0_heardOfAll_16 : decode cX0_heardOfAll 16 = .ok (.istore_n 1, 1) := dd_all DX0_heardOfAll_0_ok 12 rfl
theorem dX0_heardOfAll_17 : decode cX0_heardOfAll 17 = .ok (.iinc 2 1, 3) := dd_all DX0_heardOfAll_0_ok 13 rfl
theorem dX0_heardOfAll_20 : decode cX0_heardOfAll 20 = .ok (.goto (-16), 3) := dd_all DX0_heardOfAll_0_ok 14 rfl
theorem dX0_heardOfAll_23 : decode cX0_heardOfAll 23 = .ok (.iload_n 1, 1) := dd_all DX0_heardOfAll_0_ok 15 rfl
theorem dX0_heardOfAll_24 : decode cX0_heardOfAll 24 = .ok (.ireturn, 1) := dd_all DX0_heardOfAll_0_ok 16 rfl
def DX1_init_0 : List (Nat × Instr × Nat) := [(0, .aload_n 0, 1), (1, .invokespecial 3, 3), (4, .aload_n 0, 1), (5, .bipush 60, 2), (7, .newarray .char, 2), (9, .putfield 9, 3), (12, .aload_n 1, 1), (13, .invokevirtual 15, 3), (16, .bipush 60, 2), (18, .invokestatic 21, 3), (21, .istore_n 2, 1), (22, .iconst 0, 1), (23, .istore_n 3, 1), (24, .iload_n 3, 1), (25, .iload_n 2, 1), (26, .if_icmp .ge 20, 3), (29, .aload_n 0, 1), (30, .getfield 9, 3), (33, .iload_n 3, 1), (34, .aload_n 1, 1), (35, .iload_n 3, 1), (36, .invokevirtual 27, 3), (39, .castore, 1), (40, .iinc 3 1, 3), (43, .goto (-19), 3), (46, .aload_n 0, 1), (47, .iload_n 2, 1), (48, .putfield 31, 3), (51, .return_, 1)]
theorem DX1_init_0_ok : ∀ q ∈ DX1_init_0, decode cX1_init q.1 = .ok (q.2.1, q.2.2) := by decide +kernel
theorem dX1_init_0 : decode cX1_init 0 = .ok (.aload_n 0, 1) := dd_all DX1_init_0_ok 0 rfl
theorem dX1_init_1 : decode cX1_init 1 = .ok (.invokespecial 3, 3) := dd_all DX1_init_0_ok 1 rfl
theorem dX1_init_4 : decode cX1_init 4 = .ok (.aload_n 0, 1) := dd_all DX1_init_0_ok 2 rfl
theorem dX1_init_5 : decode cX1_init 5 = .ok (.bipush 60, 2) := dd_all DX1_init_0_ok 3 rfl
theorem dX1_init_7 : decode cX1_init 7 = .ok (.newarray .char, 2) := dd_all DX1_init_0_ok 4 rfl
theorem dX1_init_9 : decode cX1_init 9 = .ok (.putfield 9, 3) := dd_all DX1_init_0_ok 5 rfl
theorem dX1_init_12 : decode cX1_init 12 = .ok (.aload_n 1, 1) := dd_all DX1_init_0_ok 6 rfl
theorem dX1_init_13 : decode cX1_init 13 = .ok (.invokevirtual 15, 3) := dd_all DX1_init_0_ok 7 rfl
theorem dX1_init_16 : decode cX1_init 16 = .ok (.bipush 60, 2) := dd_all DX1_init_0_ok 8 rfl
theorem dX1_init_18 : decode cX1_init 18 = .ok (.invokestatic 21, 3) := dd_all DX1_init_0_ok 9 rfl
theorem dX1_init_21 : decode cX1_init 21 = .ok (.istore_n 2, 1) := dd_all DX1_init_0_ok 10 rfl
theorem dX1_init_22 : decode cX1_init 22 = .ok (.iconst 0, 1) := dd_all DX1_init_0_ok 11 rfl
theorem dX1_init_23 : decode cX1_init 23 = .ok (.istore_n 3, 1) := dd_all DX1_init_0_ok 12 rfl
theorem dX1_init_24 : decode cX1_init 24 = .ok (.iload_n 3, 1) := dd_all DX1_init_0_ok 13 rfl
theorem dX1_init_25 : decode cX1_init 25 = .ok (.iload_n 2, 1) := dd_all DX1_init_0_ok 14 rfl
theorem dX1_init_26 : decode cX1_init 26 = .ok (.if_icmp .ge 20, 3) := dd_all DX1_init_0_ok 15 rfl
theorem dX1_init_29 : decode cX1_init 29 = .ok (.aload_n 0, 1) := dd_all DX1_init_0_ok 16 rfl
theorem dX1_init_30 : decode cX1_init 30 = .ok (.getfield 9, 3) := dd_all DX1_init_0_ok 17 rfl
theorem dX1_init_33 : decode cX1_init 33 = .ok (.iload_n 3, 1) := dd_all DX1_init_0_ok 18 rfl
theorem dX1_init_34 : decode cX1_init 34 = .ok (.aload_n 1, 1) := dd_all DX1_init_0_ok 19 rfl
theorem dX1_init_35 : decode cX1_init 35 = .ok (.iload_n 3, 1) := dd_all DX1_init_0_ok 20 rfl
theorem dX1_init_36 : decode cX1_init 36 = .ok (.invokevirtual 27, 3) := dd_all DX1_init_0_ok 21 rfl
theorem dX1_init_39 : decode cX1_init 39 = .ok (.castore, 1) := dd_all DX1_init_0_ok 22 rfl
theorem dX1_init_40 : decode cX1_init 40 = .ok (.iinc 3 1, 3) := dd_all DX1_init_0_ok 23 rfl
theorem dX1_init_43 : decode cX1_init 43 = .ok (.goto (-19), 3) := dd_all DX1_init_0_ok 24 rfl
theorem dX1_init_46 : decode cX1_init 46 = .ok (.aload_n 0, 1) := dd_all DX1_init_0_ok 25 rfl
theorem dX1_init_47 : decode cX1_init 47 = .ok (.iload_n 2, 1) := dd_all DX1_init_0_ok 26 rfl
theorem dX1_init_48 : decode cX1_init 48 = .ok (.putfield 31, 3) := dd_all DX1_init_0_ok 27 rfl
theorem dX1_init_51 : decode cX1_init 51 = .ok (.return_, 1) := dd_all DX1_init_0_ok 28 rfl
def DX1_append_0 : List (Nat × Instr × Nat) := [(0, .aload_n 0, 1), (1, .getfield 31, 3), (4, .ifCond .lt 35, 3), (7, .aload_n 0, 1), (8, .getfield 31, 3), (11, .aload_n 0, 1), (12, .getfield 9, 3), (15, .arraylength, 1), (16, .if_icmp .ge 23, 3), (19, .aload_n 0, 1), (20, .getfield 9, 3), (23, .aload_n 0, 1), (24, .getfield 31, 3), (27, .iload_n 1, 1), (28, .castore, 1), (29, .aload_n 0, 1), (30, .dup, 1), (31, .getfield 31, 3), (34, .iconst 1, 1), (35, .iadd, 1), (36, .putfield 31, 3), (39, .return_, 1)]
theorem DX1_append_0_ok : ∀ q ∈ DX1_append_0, decode cX1_append q.1 = .ok (q.2.1, q.2.2) := by decide +kernel
theorem dX1_append_0 : decode cX1_append 0 = .ok (.aload_n 0, 1) := dd_all DX1_append_0_ok 0 rfl
theorem dX1_append_1 : decode cX1_append 1 = .ok (.getfield 31, 3) := dd_all DX1_append_0_ok 1 rfl
theorem dX1_append_4 : decode cX1_append 4 = .ok (.ifCond .lt 35, 3) := dd_all DX1_append_0_ok 2 rfl
theorem dX1_append_7 : decode cX1_append 7 = .ok (.aload_n 0, 1) := dd_all DX1_append_0_ok 3 rfl
theorem dX1_append_8 : decode cX1_append 8 = .ok (.getfield 31, 3) := dd_all DX1_append_0_ok 4 rfl
theorem dX1_append_11 : decode cX1_append 11 = .ok (.aload_n 0, 1) := dd_all DX1_append_0_ok 5 rfl
theorem dX1_append_12 : decode cX1_append 12 = .ok (.getfield 9, 3) := dd_all DX1_append_0_ok 6 rfl
theorem dX1_append_15 : decode cX1_append 15 = .ok (.arraylength, 1) := dd_all DX1_append_0_ok 7 rfl
theorem dX1_append_16 : decode cX1_append 16 = .ok (.if_icmp .ge 23, 3) := dd_all DX1_append_0_ok 8 rfl
theorem dX1_append_19 : decode cX1_append 19 = .ok (.aload_n 0, 1) := dd_all DX1_append_0_ok 9 rfl
theorem dX1_append_20 : decode cX1_append 20 = .ok (.getfield 9, 3) := dd_all DX1_append_0_ok 10 rfl
theorem dX1_append_23 : decode cX1_append 23 = .ok (.aload_n 0, 1) := dd_all DX1_append_0_ok 11 rfl
theorem dX1_append_24 : decode cX1_append 24 = .ok (.getfield 31, 3) := dd_all DX1_append_0_ok 12 rfl
theorem dX1_append_27 : decode cX1_append 27 = .ok (.iload_n 1, 1) := dd_all DX1_append_0_ok 13 rfl
theorem dX1_append_28 : decode cX1_append 28 = .ok (.castore, 1) := dd_all DX1_append_0_ok 14 rfl
theorem dX1_append_29 : decode cX1_append 29 = .ok (.aload_n 0, 1) := dd_all DX1_append_0_ok 15 rfl
theorem dX1_append_30 : decode cX1_append 30 = .ok (.dup, 1) := dd_all DX1_append_0_ok 16 rfl
theorem dX1_append_31 : decode cX1_append 31 = .ok (.getfield 31, 3) := dd_all DX1_append_0_ok 17 rfl
theorem dX1_append_34 : decode cX1_append 34 = .ok (.iconst 1, 1) := dd_all DX1_append_0_ok 18 rfl
theorem dX1_append_35 : decode cX1_append 35 = .ok (.iadd, 1) := dd_all DX1_append_0_ok 19 rfl
theorem dX1_append_36 : decode cX1_append 36 = .ok (.putfield 31, 3) := dd_all DX1_append_0_ok 20 rfl
theorem dX1_append_39 : decode cX1_append 39 = .ok (.return_, 1) := dd_all DX1_append_0_ok 21 rfl
def DX1_signAt_0 : List (Nat × Instr × Nat) := [(0, .iload_n 1, 1), (1, .ifCond .lt 29, 3), (4, .iload_n 1, 1), (5, .aload_n 0, 1), (6, .getfield 31, 3), (9, .if_icmp .ge 21, 3), (12, .iload_n 1, 1), (13, .aload_n 0, 1), (14, .getfield 9, 3), (17, .arraylength, 1), (18, .if_icmp .ge 12, 3), (21, .aload_n 0, 1), (22, .getfield 9, 3), (25, .iload_n 1, 1), (26, .caload, 1), (27, .goto 4, 3), (30, .iconst 0, 1), (31, .ireturn, 1)]
theorem DX1_signAt_0_ok : ∀ q ∈ DX1_signAt_0, decode cX1_signAt q.1 = .ok (q.2.1, q.2.2) := by decide +kernel
theorem dX1_signAt_0 : decode cX1_signAt 0 = .ok (.iload_n 1, 1) := dd_all DX1_signAt_0_ok 0 rfl
theorem dX1_signAt_1 : decode cX1_signAt 1 = .ok (.ifCond .lt 29, 3) := dd_all DX1_signAt_0_ok 1 rfl
theorem dX1_signAt_4 : decode cX1_signAt 4 = .ok (.iload_n 1, 1) := dd_all DX1_signAt_0_ok 2 rfl
theorem dX1_signAt_5 : decode cX1_signAt 5 = .ok (.aload_n 0, 1) := dd_all DX1_signAt_0_ok 3 rfl
theorem dX1_signAt_6 : decode cX1_signAt 6 = .ok (.getfield 31, 3) := dd_all DX1_signAt_0_ok 4 rfl
theorem dX1_signAt_9 : decode cX1_signAt 9 = .ok (.if_icmp .ge 21, 3) := dd_all DX1_signAt_0_ok 5 rfl
theorem dX1_signAt_12 : decode cX1_signAt 12 = .ok (.iload_n 1, 1) := dd_all DX1_signAt_0_ok 6 rfl
theorem dX1_signAt_13 : decode cX1_signAt 13 = .ok (.aload_n 0, 1) := dd_all DX1_signAt_0_ok 7 rfl
theorem dX1_signAt_14 : decode cX1_signAt 14 = .ok (.getfield 9, 3) := dd_all DX1_signAt_0_ok 8 rfl
theorem dX1_signAt_17 : decode cX1_signAt 17 = .ok (.arraylength, 1) := dd_all DX1_signAt_0_ok 9 rfl
theorem dX1_signAt_18 : decode cX1_signAt 18 = .ok (.if_icmp .ge 12, 3) := dd_all DX1_signAt_0_ok 10 rfl
theorem dX1_signAt_21 : decode cX1_signAt 21 = .ok (.aload_n 0, 1) := dd_all DX1_signAt_0_ok 11 rfl
theorem dX1_signAt_22 : decode cX1_signAt 22 = .ok (.getfield 9, 3) := dd_all DX1_signAt_0_ok 12 rfl
theorem dX1_signAt_25 : decode cX1_signAt 25 = .ok (.iload_n 1, 1) := dd_all DX1_signAt_0_ok 13 rfl
theorem dX1_signAt_26 : decode cX1_signAt 26 = .ok (.caload, 1) := dd_all DX1_signAt_0_ok 14 rfl
theorem dX1_signAt_27 : decode cX1_signAt 27 = .ok (.goto 4, 3) := dd_all DX1_signAt_0_ok 15 rfl
theorem dX1_signAt_30 : decode cX1_signAt 30 = .ok (.iconst 0, 1) := dd_all DX1_signAt_0_ok 16 rfl
theorem dX1_signAt_31 : decode cX1_signAt 31 = .ok (.ireturn, 1) := dd_all DX1_signAt_0_ok 17 rfl
def DX1_copyFrom_0 : List (Nat × Instr × Nat) := [(0, .aload_n 1, 1), (1, .getfield 31, 3), (4, .bipush 60, 2), (6, .invokestatic 21, 3), (9, .istore_n 2, 1), (10, .iconst 0, 1), (11, .istore_n 3, 1), (12, .iload_n 3, 1), (13, .iload_n 2, 1), (14, .if_icmp .ge 20, 3), (17, .aload_n 0, 1), (18, .getfield 9, 3), (21, .iload_n 3, 1), (22, .aload_n 1, 1), (23, .iload_n 3, 1), (24, .invokevirtual 34, 3), (27, .castore, 1), (28, .iinc 3 1, 3), (31, .goto (-19), 3), (34, .aload_n 0, 1), (35, .iload_n 2, 1), (36, .putfield 31, 3), (39, .return_, 1)]
theorem DX1_copyFrom_0_ok : ∀ q ∈ DX1_copyFrom_0, decode cX1_copyFrom q.1 = .ok (q.2.1, q.2.2) := by decide +kernel
theorem dX1_copyFrom_0 : decode cX1_copyFrom 0 = .ok (.aload_n 1, 1) := dd_all DX1_copyFrom_0_ok 0 rfl
theorem dX1_copyFrom_1 : decode cX1_copyFrom 1 = .ok (.getfield 31, 3) := dd_all DX1_copyFrom_0_ok 1 rfl
theorem dX1_copyFrom_4 : decode cX1_copyFrom 4 = .ok (.bipush 60, 2) := dd_all DX1_copyFrom_0_ok 2 rfl
theorem dX1_copyFrom_6 : decode cX1_copyFrom 6 = .ok (.invokestatic 21, 3) := dd_all DX1_copyFrom_0_ok 3 rfl
theorem dX1_copyFrom_9 : decode cX1_copyFrom 9 = .ok (.istore_n 2, 1) := dd_all DX1_copyFrom_0_ok 4 rfl
theorem dX1_copyFrom_10 : decode cX1_copyFrom 10 = .ok (.iconst 0, 1) := dd_all DX1_copyFrom_0_ok 5 rfl
theorem dX1_copyFrom_11 : decode cX1_copyFrom 11 = .ok (.istore_n 3, 1) := dd_all DX1_copyFrom_0_ok 6 rfl
theorem dX1_copyFrom_12 : decode cX1_copyFrom 12 = .ok (.iload_n 3, 1) := dd_all DX1_copyFrom_0_ok 7 rfl
theorem dX1_copyFrom_13 : decode cX1_copyFrom 13 = .ok (.iload_n 2, 1) := dd_all DX1_copyFrom_0_ok 8 rfl
theorem dX1_copyFrom_14 : decode cX1_copyFrom 14 = .ok (.if_icmp .ge 20, 3) := dd_all DX1_copyFrom_0_ok 9 rfl
theorem dX1_copyFrom_17 : decode cX1_copyFrom 17 = .ok (.aload_n 0, 1) := dd_all DX1_copyFrom_0_ok 10 rfl
theorem dX1_copyFrom_18 : decode cX1_copyFrom 18 = .ok (.getfield 9, 3) := dd_all DX1_copyFrom_0_ok 11 rfl
theorem dX1_copyFrom_21 : decode cX1_copyFrom 21 = .ok (.iload_n 3, 1) := dd_all DX1_copyFrom_0_ok 12 rfl
theorem dX1_copyFrom_22 : decode cX1_copyFrom 22 = .ok (.aload_n 1, 1) := dd_all DX1_copyFrom_0_ok 13 rfl
theorem dX1_copyFrom_23 : decode cX1_copyFrom 23 = .ok (.iload_n 3, 1) := dd_all DX1_copyFrom_0_ok 14 rfl
theorem dX1_copyFrom_24 : decode cX1_copyFrom 24 = .ok (.invokevirtual 34, 3) := dd_all DX1_copyFrom_0_ok 15 rfl
theorem dX1_copyFrom_27 : decode cX1_copyFrom 27 = .ok (.castore, 1) := dd_all DX1_copyFrom_0_ok 16 rfl
theorem dX1_copyFrom_28 : decode cX1_copyFrom 28 = .ok (.iinc 3 1, 3) := dd_all DX1_copyFrom_0_ok 17 rfl
theorem dX1_copyFrom_31 : decode cX1_copyFrom 31 = .ok (.goto (-19), 3) := dd_all DX1_copyFrom_0_ok 18 rfl
theorem dX1_copyFrom_34 : decode cX1_copyFrom 34 = .ok (.aload_n 0, 1) := dd_all DX1_copyFrom_0_ok 19 rfl
theorem dX1_copyFrom_35 : decode cX1_copyFrom 35 = .ok (.iload_n 2, 1) := dd_all DX1_copyFrom_0_ok 20 rfl
theorem dX1_copyFrom_36 : decode cX1_copyFrom 36 = .ok (.putfield 31, 3) := dd_all DX1_copyFrom_0_ok 21 rfl
theorem dX1_copyFrom_39 : decode cX1_copyFrom 39 = .ok (.return_, 1) := dd_all DX1_copyFrom_0_ok 22 rfl
def DX1_howManyParts_0 : List (Nat × Instr × Nat) := [(0, .iconst 0, 1), (1, .istore_n 1, 1), (2, .iconst 0, 1), (3, .istore_n 2, 1), (4, .iload_n 2, 1), (5, .aload_n 0, 1), (6, .getfield 31, 3), (9, .if_icmp .ge 29, 3), (12, .iload_n 1, 1), (13, .aload_n 0, 1), (14, .iload_n 2, 1), (15, .invokevirtual 34, 3), (18, .invokestatic 37, 3), (21, .iconst (-1), 1), (22, .if_icmp .ne 7, 3), (25, .iconst 0, 1), (26, .goto 4, 3), (29, .iconst 1, 1), (30, .iadd, 1), (31, .istore_n 1, 1), (32, .iinc 2 1, 3), (35, .goto (-31), 3), (38, .iload_n 1, 1), (39, .ireturn, 1)]
theorem DX1_howManyParts_0_ok : ∀ q ∈ DX1_howManyParts_0, decode cX1_howManyParts q.1 = .ok (q.2.1, q.2.2) := by decide +kernel
theorem dX1_howManyParts_0 : decode cX1_howManyParts 0 = .ok (.iconst 0, 1) := dd_all DX1_howManyParts_0_ok 0 rfl
theorem dX1_howManyParts_1 : decode cX1_howManyParts 1 = .ok (.istore_n 1, 1) := dd_all DX1_howManyParts_0_ok 1 rfl
theorem dX1_howManyParts_2 : decode cX1_howManyParts 2 = .ok (.iconst 0, 1) := dd_all DX1_howManyParts_0_ok 2 rfl
theorem dX1_howManyParts_3 : decode cX1_howManyParts 3 = .ok (.istore_n 2, 1) := dd_all DX1_howManyParts_0_ok 3 rfl
theorem dX1_howManyParts_4 : decode cX1_howManyParts 4 = .ok (.iload_n 2, 1) := dd_all DX1_howManyParts_0_ok 4 rfl
theorem dX1_howManyParts_5 : decode cX1_howManyParts 5 = .ok (.aload_n 0, 1) := dd_all DX1_howManyParts_0_ok 5 rfl
theorem dX1_howManyParts_6 : decode cX1_howManyParts 6 = .ok (.getfield 31, 3) := dd_all DX1_howManyParts_0_ok 6 rfl
theorem dX1_howManyParts_9 : decode cX1_howManyParts 9 = .ok (.if_icmp .ge 29, 3) := dd_all DX1_howManyParts_0_ok 7 rfl
theorem dX1_howManyParts_12 : decode cX1_howManyParts 12 = .ok (.iload_n 1, 1) := dd_all DX1_howManyParts_0_ok 8 rfl
theorem dX1_howManyParts_13 : decode cX1_howManyParts 13 = .ok (.aload_n 0, 1) := dd_all DX1_howManyParts_0_ok 9 rfl
theorem dX1_howManyParts_14 : decode cX1_howManyParts 14 = .ok (.iload_n 2, 1) := dd_all DX1_howManyParts_0_ok 10 rfl
theorem dX1_howManyParts_15 : decode cX1_howManyParts 15 = .ok (.invokevirtual 34, 3) := dd_all DX1_howManyParts_0_ok 11 rfl
theorem dX1_howManyParts_18 : decode cX1_howManyParts 18 = .ok (.invokestatic 37, 3) := dd_all DX1_howManyParts_0_ok 12 rfl
theorem dX1_howManyParts_21 : decode cX1_howManyParts 21 = .ok (.iconst (-1), 1) := dd_all DX1_howManyParts_0_ok 13 rfl
theorem dX1_howManyParts_22 : decode cX1_howManyParts 22 = .ok (.if_icmp .ne 7, 3) := dd_all DX1_howManyParts_0_ok 14 rfl
theorem dX1_howManyParts_25 : decode cX1_howManyParts 25 = .ok (.iconst 0, 1) := dd_all DX1_howManyParts_0_ok 15 rfl
theorem dX1_howManyParts_26 : decode cX1_howManyParts 26 = .ok (.goto 4, 3) := dd_all DX1_howManyParts_0_ok 16 rfl
theorem dX1_howManyParts_29 : decode cX1_howManyParts 29 = .ok (.iconst 1, 1) := dd_all DX1_howManyParts_0_ok 17 rfl
theorem dX1_howManyParts_30 : decode cX1_howManyParts 30 = .ok (.iadd, 1) := dd_all DX1_howManyParts_0_ok 18 rfl
theorem dX1_howManyParts_31 : decode cX1_howManyParts 31 = .ok (.istore_n 1, 1) := dd_all DX1_howManyParts_0_ok 19 rfl
theorem dX1_howManyParts_32 : decode cX1_howManyParts 32 = .ok (.iinc 2 1, 3) := dd_all DX1_howManyParts_0_ok 20 rfl
theorem dX1_howManyParts_35 : decode cX1_howManyParts 35 = .ok (.goto (-31), 3) := dd_all DX1_howManyParts_0_ok 21 rfl
theorem dX1_howManyParts_38 : decode cX1_howManyParts 38 = .ok (.iload_n 1, 1) := dd_all DX1_howManyParts_0_ok 22 rfl
theorem dX1_howManyParts_39 : decode cX1_howManyParts 39 = .ok (.ireturn, 1) := dd_all DX1_howManyParts_0_ok 23 rfl
def DX1_partNamed_0 : List (Nat × Instr × Nat) := [(0, .ldc 41, 2), (2, .iload_n 0, 1), (3, .invokevirtual 43, 3), (6, .ireturn, 1)]
theorem DX1_partNamed_0_ok : ∀ q ∈ DX1_partNamed_0, decode cX1_partNamed q.1 = .ok (q.2.1, q.2.2) := by decide +kernel
theorem dX1_partNamed_0 : decode cX1_partNamed 0 = .ok (.ldc 41, 2) := dd_all DX1_partNamed_0_ok 0 rfl
theorem dX1_partNamed_2 : decode cX1_partNamed 2 = .ok (.iload_n 0, 1) := dd_all DX1_partNamed_0_ok 1 rfl
theorem dX1_partNamed_3 : decode cX1_partNamed 3 = .ok (.invokevirtual 43, 3) := dd_all DX1_partNamed_0_ok 2 rfl
theorem dX1_partNamed_6 : decode cX1_partNamed 6 = .ok (.ireturn, 1) := dd_all DX1_partNamed_0_ok 3 rfl
def DX2_init_0 : List (Nat × Instr × Nat) := [(0, .aload_n 0, 1), (1, .invokespecial 3, 3), (4, .aload_n 0, 1), (5, .iconst 4, 1), (6, .anewarray 9, 3), (9, .putfield 11, 3), (12, .iconst 0, 1), (13, .istore_n 1, 1), (14, .iload_n 1, 1), (15, .aload_n 0, 1), (16, .getfield 11, 3), (19, .arraylength, 1), (20, .if_icmp .ge 22, 3), (23, .aload_n 0, 1), (24, .getfield 11, 3), (27, .iload_n 1, 1), (28, .new 9, 3), (31, .dup, 1), (32, .invokespecial 17, 3), (35, .aastore, 1), (36, .iinc 1 1, 3), (39, .goto (-25), 3), (42, .return_, 1)]
theorem DX2_init_0_ok : ∀ q ∈ DX2_init_0, decode cX2_init q.1 = .ok (q.2.1, q.2.2) := by decide +kernel
theorem dX2_init_0 : decode cX2_init 0 = .ok (.aload_n 0, 1) := dd_all DX2_init_0_ok 0 rfl
theorem dX2_init_1 : decode cX2_init 1 = .ok (.invokespecial 3, 3) := dd_all DX2_init_0_ok 1 rfl
theorem dX2_init_4 : decode cX2_init 4 = .ok (.aload_n 0, 1) := dd_all DX2_init_0_ok 2 rfl
theorem dX2_init_5 : decode cX2_init 5 = .ok (.iconst 4, 1) := dd_all DX2_init_0_ok 3 rfl
theorem dX2_init_6 : decode cX2_init 6 = .ok (.anewarray 9, 3) := dd_all DX2_init_0_ok 4 rfl
theorem dX2_init_9 : decode cX2_init 9 = .ok (.putfield 11, 3) := dd_all DX2_init_0_ok 5 rfl
theorem dX2_init_12 : decode cX2_init 12 = .ok (.iconst 0, 1) := dd_all DX2_init_0_ok 6 rfl
theorem dX2_init_13 : decode cX2_init 13 = .ok (.istore_n 1, 1) := dd_all DX2_init_0_ok 7 rfl
theorem dX2_init_14 : decode cX2_init 14 = .ok (.iload_n 1, 1) := dd_all DX2_init_0_ok 8 rfl
theorem dX2_init_15 : decode cX2_init 15 = .ok (.aload_n 0, 1) := dd_all DX2_init_0_ok 9 rfl
theorem dX2_init_16 : decode cX2_init 16 = .ok (.getfield 11, 3) := dd_all DX2_init_0_ok 10 rfl
theorem dX2_init_19 : decode cX2_init 19 = .ok (.arraylength, 1) := dd_all DX2_init_0_ok 11 rfl
theorem dX2_init_20 : decode cX2_init 20 = .ok (.if_icmp .ge 22, 3) := dd_all DX2_init_0_ok 12 rfl
theorem dX2_init_23 : decode cX2_init 23 = .ok (.aload_n 0, 1) := dd_all DX2_init_0_ok 13 rfl
theorem dX2_init_24 : decode cX2_init 24 = .ok (.getfield 11, 3) := dd_all DX2_init_0_ok 14 rfl
theorem dX2_init_27 : decode cX2_init 27 = .ok (.iload_n 1, 1) := dd_all DX2_init_0_ok 15 rfl
theorem dX2_init_28 : decode cX2_init 28 = .ok (.new 9, 3) := dd_all DX2_init_0_ok 16 rfl
theorem dX2_init_31 : decode cX2_init 31 = .ok (.dup, 1) := dd_all DX2_init_0_ok 17 rfl
theorem dX2_init_32 : decode cX2_init 32 = .ok (.invokespecial 17, 3) := dd_all DX2_init_0_ok 18 rfl
theorem dX2_init_35 : decode cX2_init 35 = .ok (.aastore, 1) := dd_all DX2_init_0_ok 19 rfl
theorem dX2_init_36 : decode cX2_init 36 = .ok (.iinc 1 1, 3) := dd_all DX2_init_0_ok 20 rfl
theorem dX2_init_39 : decode cX2_init 39 = .ok (.goto (-25), 3) := dd_all DX2_init_0_ok 21 rfl
theorem dX2_init_42 : decode cX2_init 42 = .ok (.return_, 1) := dd_all DX2_init_0_ok 22 rfl
def DX2_record_0 : List (Nat × Instr × Nat) := [(0, .aload_n 0, 1), (1, .getfield 18, 3), (4, .iconst 4, 1), (5, .if_icmp .ne 7, 3), (8, .aload_n 0, 1), (9, .invokevirtual 22, 3), (12, .aload_n 0, 1), (13, .aload_n 0, 1), (14, .getfield 18, 3), (17, .invokevirtual 25, 3), (20, .astore_n 2, 1), (21, .aload_n 2, 1), (22, .ifnull 18, 3), (25, .aload_n 2, 1), (26, .aload_n 1, 1), (27, .invokevirtual 29, 3), (30, .aload_n 0, 1), (31, .dup, 1), (32, .getfield 18, 3), (35, .iconst 1, 1), (36, .iadd, 1), (37, .putfield 18, 3), (40, .return_, 1)]
theorem DX2_record_0_ok : ∀ q ∈ DX2_record_0, decode cX2_record q.1 = .ok (q.2.1, q.2.2) := by decide +kernel
theorem dX2_record_0 : decode cX2_record 0 = .ok (.aload_n 0, 1) := dd_all DX2_record_0_ok 0 rfl
theorem dX2_record_1 : decode cX2_record 1 = .ok (.getfield 18, 3) := dd_all DX2_record_0_ok 1 rfl
theorem dX2_record_4 : decode cX2_record 4 = .ok (.iconst 4, 1) := dd_all DX2_record_0_ok 2 rfl
theorem dX2_record_5 : decode cX2_record 5 = .ok (.if_icmp .ne 7, 3) := dd_all DX2_record_0_ok 3 rfl
theorem dX2_record_8 : decode cX2_record 8 = .ok (.aload_n 0, 1) := dd_all DX2_record_0_ok 4 rfl
theorem dX2_record_9 : decode cX2_record 9 = .ok (.invokevirtual 22, 3) := dd_all DX2_record_0_ok 5 rfl
theorem dX2_record_12 : decode cX2_record 12 = .ok (.aload_n 0, 1) := dd_all DX2_record_0_ok 6 rfl
theorem dX2_record_13 : decode cX2_record 13 = .ok (.aload_n 0, 1) := dd_all DX2_record_0_ok 7 rfl
theorem dX2_record_14 : decode cX2_record 14 = .ok (.getfield 18, 3) := dd_all DX2_record_0_ok 8 rfl
theorem dX2_record_17 : decode cX2_record 17 = .ok (.invokevirtual 25, 3) := dd_all DX2_record_0_ok 9 rfl
theorem dX2_record_20 : decode cX2_record 20 = .ok (.astore_n 2, 1) := dd_all DX2_record_0_ok 10 rfl
theorem dX2_record_21 : decode cX2_record 21 = .ok (.aload_n 2, 1) := dd_all DX2_record_0_ok 11 rfl
theorem dX2_record_22 : decode cX2_record 22 = .ok (.ifnull 18, 3) := dd_all DX2_record_0_ok 12 rfl
theorem dX2_record_25 : decode cX2_record 25 = .ok (.aload_n 2, 1) := dd_all DX2_record_0_ok 13 rfl
theorem dX2_record_26 : decode cX2_record 26 = .ok (.aload_n 1, 1) := dd_all DX2_record_0_ok 14 rfl
theorem dX2_record_27 : decode cX2_record 27 = .ok (.invokevirtual 29, 3) := dd_all DX2_record_0_ok 15 rfl
theorem dX2_record_30 : decode cX2_record 30 = .ok (.aload_n 0, 1) := dd_all DX2_record_0_ok 16 rfl
theorem dX2_record_31 : decode cX2_record 31 = .ok (.dup, 1) := dd_all DX2_record_0_ok 17 rfl
theorem dX2_record_32 : decode cX2_record 32 = .ok (.getfield 18, 3) := dd_all DX2_record_0_ok 18 rfl
theorem dX2_record_35 : decode cX2_record 35 = .ok (.iconst 1, 1) := dd_all DX2_record_0_ok 19 rfl
theorem dX2_record_36 : decode cX2_record 36 = .ok (.iadd, 1) := dd_all DX2_record_0_ok 20 rfl
theorem dX2_record_37 : decode cX2_record 37 = .ok (.putfield 18, 3) := dd_all DX2_record_0_ok 21 rfl
theorem dX2_record_40 : decode cX2_record 40 = .ok (.return_, 1) := dd_all DX2_record_0_ok 22 rfl
def DX2_restore_0 : List (Nat × Instr × Nat) := [(0, .aload_n 0, 1), (1, .aload_n 0, 1), (2, .getfield 18, 3), (5, .iconst 1, 1), (6, .isub, 1), (7, .invokevirtual 25, 3), (10, .astore_n 2, 1), (11, .aload_n 2, 1), (12, .ifnull 18, 3), (15, .aload_n 1, 1), (16, .aload_n 2, 1), (17, .invokevirtual 29, 3), (20, .aload_n 0, 1), (21, .dup, 1), (22, .getfield 18, 3), (25, .iconst 1, 1), (26, .isub, 1), (27, .putfield 18, 3), (30, .return_, 1)]
theorem DX2_restore_0_ok : ∀ q ∈ DX2_restore_0, decode cX2_restore q.1 = .ok (q.2.1, q.2.2) := by decide +kernel
theorem dX2_restore_0 : decode cX2_restore 0 = .ok (.aload_n 0, 1) := dd_all DX2_restore_0_ok 0 rfl
theorem dX2_restore_1 : decode cX2_restore 1 = .ok (.aload_n 0, 1) := dd_all DX2_restore_0_ok 1 rfl
theorem dX2_restore_2 : decode cX2_restore 2 = .ok (.getfield 18, 3) := dd_all DX2_restore_0_ok 2 rfl
theorem dX2_restore_5 : decode cX2_restore 5 = .ok (.iconst 1, 1) := dd_all DX2_restore_0_ok 3 rfl
theorem dX2_restore_6 : decode cX2_restore 6 = .ok (.isub, 1) := dd_all DX2_restore_0_ok 4 rfl
theorem dX2_restore_7 : decode cX2_restore 7 = .ok (.invokevirtual 25, 3) := dd_all DX2_restore_0_ok 5 rfl
theorem dX2_restore_10 : decode cX2_restore 10 = .ok (.astore_n 2, 1) := dd_all DX2_restore_0_ok 6 rfl
theorem dX2_restore_11 : decode cX2_restore 11 = .ok (.aload_n 2, 1) := dd_all DX2_restore_0_ok 7 rfl
theorem dX2_restore_12 : decode cX2_restore 12 = .ok (.ifnull 18, 3) := dd_all DX2_restore_0_ok 8 rfl
theorem dX2_restore_15 : decode cX2_restore 15 = .ok (.aload_n 1, 1) := dd_all DX2_restore_0_ok 9 rfl
theorem dX2_restore_16 : decode cX2_restore 16 = .ok (.aload_n 2, 1) := dd_all DX2_restore_0_ok 10 rfl
theorem dX2_restore_17 : decode cX2_restore 17 = .ok (.invokevirtual 29, 3) := dd_all DX2_restore_0_ok 11 rfl
theorem dX2_restore_20 : decode cX2_restore 20 = .ok (.aload_n 0, 1) := dd_all DX2_restore_0_ok 12 rfl
theorem dX2_restore_21 : decode cX2_restore 21 = .ok (.dup, 1) := dd_all DX2_restore_0_ok 13 rfl
theorem dX2_restore_22 : decode cX2_restore 22 = .ok (.getfield 18, 3) := dd_all DX2_restore_0_ok 14 rfl
theorem dX2_restore_25 : decode cX2_restore 25 = .ok (.iconst 1, 1) := dd_all DX2_restore_0_ok 15 rfl
theorem dX2_restore_26 : decode cX2_restore 26 = .ok (.isub, 1) := dd_all DX2_restore_0_ok 16 rfl
theorem dX2_restore_27 : decode cX2_restore 27 = .ok (.putfield 18, 3) := dd_all DX2_restore_0_ok 17 rfl
theorem dX2_restore_30 : decode cX2_restore 30 = .ok (.return_, 1) := dd_all DX2_restore_0_ok 18 rfl
def DX2_stateAt_0 : List (Nat × Instr × Nat) := [(0, .iload_n 1, 1), (1, .ifCond .lt 21, 3), (4, .iload_n 1, 1), (5, .aload_n 0, 1), (6, .getfield 11, 3), (9, .arraylength, 1), (10, .if_icmp .ge 12, 3), (13, .aload_n 0, 1), (14, .getfield 11, 3), (17, .iload_n 1, 1), (18, .aaload, 1), (19, .goto 4, 3), (22, .aconst_null, 1), (23, .areturn, 1)]
theorem DX2_stateAt_0_ok : ∀ q ∈ DX2_stateAt_0, decode cX2_stateAt q.1 = .ok (q.2.1, q.2.2) := by decide +kernel
theorem dX2_stateAt_0 : decode cX2_stateAt 0 = .ok (.iload_n 1, 1) := dd_all DX2_stateAt_0_ok 0 rfl
theorem dX2_stateAt_1 : decode cX2_stateAt 1 = .ok (.ifCond .lt 21, 3) := dd_all DX2_stateAt_0_ok 1 rfl
theorem dX2_stateAt_4 : decode cX2_stateAt 4 = .ok (.iload_n 1, 1) := dd_all DX2_stateAt_0_ok 2 rfl
theorem dX2_stateAt_5 : decode cX2_stateAt 5 = .ok (.aload_n 0, 1) := dd_all DX2_stateAt_0_ok 3 rfl
theorem dX2_stateAt_6 : decode cX2_stateAt 6 = .ok (.getfield 11, 3) := dd_all DX2_stateAt_0_ok 4 rfl
theorem dX2_stateAt_9 : decode cX2_stateAt 9 = .ok (.arraylength, 1) := dd_all DX2_stateAt_0_ok 5 rfl
theorem dX2_stateAt_10 : decode cX2_stateAt 10 = .ok (.if_icmp .ge 12, 3) := dd_all DX2_stateAt_0_ok 6 rfl
theorem dX2_stateAt_13 : decode cX2_stateAt 13 = .ok (.aload_n 0, 1) := dd_all DX2_stateAt_0_ok 7 rfl
theorem dX2_stateAt_14 : decode cX2_stateAt 14 = .ok (.getfield 11, 3) := dd_all DX2_stateAt_0_ok 8 rfl
theorem dX2_stateAt_17 : decode cX2_stateAt 17 = .ok (.iload_n 1, 1) := dd_all DX2_stateAt_0_ok 9 rfl
theorem dX2_stateAt_18 : decode cX2_stateAt 18 = .ok (.aaload, 1) := dd_all DX2_stateAt_0_ok 10 rfl
theorem dX2_stateAt_19 : decode cX2_stateAt 19 = .ok (.goto 4, 3) := dd_all DX2_stateAt_0_ok 11 rfl
theorem dX2_stateAt_22 : decode cX2_stateAt 22 = .ok (.aconst_null, 1) := dd_all DX2_stateAt_0_ok 12 rfl
theorem dX2_stateAt_23 : decode cX2_stateAt 23 = .ok (.areturn, 1) := dd_all DX2_stateAt_0_ok 13 rfl
def DX2_dropOldest_0 : List (Nat × Instr × Nat) := [(0, .aload_n 0, 1), (1, .iconst 0, 1), (2, .invokevirtual 25, 3), (5, .astore_n 1, 1), (6, .iconst 1, 1), (7, .istore_n 2, 1), (8, .iload_n 2, 1), (9, .aload_n 0, 1), (10, .getfield 11, 3), (13, .arraylength, 1), (14, .if_icmp .ge 23, 3), (17, .aload_n 0, 1), (18, .getfield 11, 3), (21, .iload_n 2, 1), (22, .iconst 1, 1), (23, .isub, 1), (24, .aload_n 0, 1), (25, .getfield 11, 3), (28, .iload_n 2, 1), (29, .aaload, 1), (30, .aastore, 1), (31, .iinc 2 1, 3), (34, .goto (-26), 3), (37, .aload_n 0, 1), (38, .getfield 11, 3), (41, .arraylength, 1), (42, .ifCond .le 16, 3), (45, .aload_n 0, 1), (46, .getfield 11, 3), (49, .aload_n 0, 1), (50, .getfield 11, 3), (53, .arraylength, 1), (54, .iconst 1, 1), (55, .isub, 1), (56, .aload_n 1, 1), (57, .aastore, 1), (58, .aload_n 0, 1), (59, .dup, 1), (60, .getfield 18, 3), (63, .iconst 1, 1)]
theorem DX2_dropOldest_0_ok : ∀ q ∈ DX2_dropOldest_0, decode cX2_dropOldest q.1 = .ok (q.2.1, q.2.2) := by decide +kernel
theorem dX2_dropOldest_0 : decode cX2_dropOldest 0 = .ok (.aload_n 0, 1) := dd_all DX2_dropOldest_0_ok 0 rfl
theorem dX2_dropOldest_1 : decode cX2_dropOldest 1 = .ok (.iconst 0, 1) := dd_all DX2_dropOldest_0_ok 1 rfl
theorem dX2_dropOldest_2 : decode cX2_dropOldest 2 = .ok (.invokevirtual 25, 3) := dd_all DX2_dropOldest_0_ok 2 rfl
theorem dX2_dropOldest_5 : decode cX2_dropOldest 5 = .ok (.astore_n 1, 1) := dd_all DX2_dropOldest_0_ok 3 rfl
theorem dX2_dropOldest_6 : decode cX2_dropOldest 6 = .ok (.iconst 1, 1) := dd_all DX2_dropOldest_0_ok 4 rfl
theorem dX2_dropOldest_7 : decode cX2_dropOldest 7 = .ok (.istore_n 2, 1) := dd_all DX2_dropOldest_0_ok 5 rfl
theorem dX2_dropOldest_8 : decode cX2_dropOldest 8 = .ok (.iload_n 2, 1) := dd_all DX2_dropOldest_0_ok 6 rfl
theorem dX2_dropOldest_9 : decode cX2_dropOldest 9 = .ok (.aload_n 0, 1) := dd_all DX2_dropOldest_0_ok 7 rfl
theorem dX2_dropOldest_10 : decode cX2_dropOldest 10 = .ok (.getfield 11, 3) := dd_all DX2_dropOldest_0_ok 8 rfl
theorem dX2_dropOldest_13 : decode cX2_dropOldest 13 = .ok (.arraylength, 1) := dd_all DX2_dropOldest_0_ok 9 rfl
theorem dX2_dropOldest_14 : decode cX2_dropOldest 14 = .ok (.if_icmp .ge 23, 3) := dd_all DX2_dropOldest_0_ok 10 rfl
theorem dX2_dropOldest_17 : decode cX2_dropOldest 17 = .ok (.aload_n 0, 1) := dd_all DX2_dropOldest_0_ok 11 rfl
theorem dX2_dropOldest_18 : decode cX2_dropOldest 18 = .ok (.getfield 11, 3) := dd_all DX2_dropOldest_0_ok 12 rfl
theorem dX2_dropOldest_21 : decode cX2_dropOldest 21 = .ok (.iload_n 2, 1) := dd_all DX2_dropOldest_0_ok 13 rfl
theorem dX2_dropOldest_22 : decode cX2_dropOldest 22 = .ok (.iconst 1, 1) := dd_all DX2_dropOldest_0_ok 14 rfl
theorem dX2_dropOldest_23 : decode cX2_dropOldest 23 = .ok (.isub, 1) := dd_all DX2_dropOldest_0_ok 15 rfl
theorem dX2_dropOldest_24 : decode cX2_dropOldest 24 = .ok (.aload_n 0, 1) := dd_all DX2_dropOldest_0_ok 16 rfl
theorem dX2_dropOldest_25 : decode cX2_dropOldest 25 = .ok (.getfield 11, 3) := dd_all DX2_dropOldest_0_ok 17 rfl
theorem dX2_dropOldest_28 : decode cX2_dropOldest 28 = .ok (.iload_n 2, 1) := dd_all DX2_dropOldest_0_ok 18 rfl
theorem dX2_dropOldest_29 : decode cX2_dropOldest 29 = .ok (.aaload, 1) := dd_all DX2_dropOldest_0_ok 19 rfl
theorem dX2_dropOldest_30 : decode cX2_dropOldest 30 = .ok (.aastore, 1) := dd_all DX2_dropOldest_0_ok 20 rfl
theorem dX2_dropOldest_31 : decode cX2_dropOldest 31 = .ok (.iinc 2 1, 3) := dd_all DX2_dropOldest_0_ok 21 rfl
theorem dX2_dropOldest_34 : decode cX2_dropOldest 34 = .ok (.goto (-26), 3) := dd_all DX2_dropOldest_0_ok 22 rfl
theorem dX2_dropOldest_37 : decode cX2_dropOldest 37 = .ok (.aload_n 0, 1) := dd_all DX2_dropOldest_0_ok 23 rfl
theorem dX2_dropOldest_38 : decode cX2_dropOldest 38 = .ok (.getfield 11, 3) := dd_all DX2_dropOldest_0_ok 24 rfl
theorem dX2_dropOldest_41 : decode cX2_dropOldest 41 = .ok (.arraylength, 1) := dd_all DX2_dropOldest_0_ok 25 rfl
theorem dX2_dropOldest_42 : decode cX2_dropOldest 42 = .ok (.ifCond .le 16, 3) := dd_all DX2_dropOldest_0_ok 26 rfl
theorem dX2_dropOldest_45 : decode cX2_dropOldest 45 = .ok (.aload_n 0, 1) := dd_all DX2_dropOldest_0_ok 27 rfl
theorem dX2_dropOldest_46 : decode cX2_dropOldest 46 = .ok (.getfield 11, 3) := dd_all DX2_dropOldest_0_ok 28 rfl
theorem dX2_dropOldest_49 : decode cX2_dropOldest 49 = .ok (.aload_n 0, 1) := dd_all DX2_dropOldest_0_ok 29 rfl
theorem dX2_dropOldest_50 : decode cX2_dropOldest 50 = .ok (.getfield 11, 3) := dd_all DX2_dropOldest_0_ok 30 rfl
theorem dX2_dropOldest_53 : decode cX2_dropOldest 53 = .ok (.arraylength, 1) := dd_all DX2_dropOldest_0_ok 31 rfl
theorem dX2_dropOldest_54 : decode cX2_dropOldest 54 = .ok (.iconst 1, 1) := dd_all DX2_dropOldest_0_ok 32 rfl
theorem dX2_dropOldest_55 : decode cX2_dropOldest 55 = .ok (.isub, 1) := dd_all DX2_dropOldest_0_ok 33 rfl
theorem dX2_dropOldest_56 : decode cX2_dropOldest 56 = .ok (.aload_n 1, 1) := dd_all DX2_dropOldest_0_ok 34 rfl
theorem dX2_dropOldest_57 : decode cX2_dropOldest 57 = .ok (.aastore, 1) := dd_all DX2_dropOldest_0_ok 35 rfl
theorem dX2_dropOldest_58 : decode cX2_dropOldest 58 = .ok (.aload_n 0, 1) := dd_all DX2_dropOldest_0_ok 36 rfl
theorem dX2_dropOldest_59 : decode cX2_dropOldest 59 = .ok (.dup, 1) := dd_all DX2_dropOldest_0_ok 37 rfl
theorem dX2_dropOldest_60 : decode cX2_dropOldest 60 = .ok (.getfield 18, 3) := dd_all DX2_dropOldest_0_ok 38 rfl
theorem dX2_dropOldest_63 : decode cX2_dropOldest 63 = .ok (.iconst 1, 1) := dd_all DX2_dropOldest_0_ok 39 rfl
def DX2_dropOldest_40 : List (Nat × Instr × Nat) := [(64, .isub, 1), (65, .putfield 18, 3), (68, .return_, 1)]
theorem DX2_dropOldest_40_ok : ∀ q ∈ DX2_dropOldest_40, decode cX2_dropOldest q.1 = .ok (q.2.1, q.2.2) := by decide +kernel
theorem dX2_dropOldest_64 : decode cX2_dropOldest 64 = .ok (.isub, 1) := dd_all DX2_dropOldest_40_ok 0 rfl
theorem dX2_dropOldest_65 : decode cX2_dropOldest 65 = .ok (.putfield 18, 3) := dd_all DX2_dropOldest_40_ok 1 rfl
theorem dX2_dropOldest_68 : decode cX2_dropOldest 68 = .ok (.return_, 1) := dd_all DX2_dropOldest_40_ok 2 rfl
def DX3_init_0 : List (Nat × Instr × Nat) := [(0, .aload_n 0, 1), (1, .invokespecial 3, 3), (4, .aload_n 0, 1), (5, .iconst 0, 1), (6, .iload_n 1, 1), (7, .invokestatic 9, 3), (10, .newarray .int, 2), (12, .putfield 15, 3), (15, .return_, 1)]
theorem DX3_init_0_ok : ∀ q ∈ DX3_init_0, decode cX3_init q.1 = .ok (q.2.1, q.2.2) := by decide +kernel
theorem dX3_init_0 : decode cX3_init 0 = .ok (.aload_n 0, 1) := dd_all DX3_init_0_ok 0 rfl
theorem dX3_init_1 : decode cX3_init 1 = .ok (.invokespecial 3, 3) := dd_all DX3_init_0_ok 1 rfl
theorem dX3_init_4 : decode cX3_init 4 = .ok (.aload_n 0, 1) := dd_all DX3_init_0_ok 2 rfl
theorem dX3_init_5 : decode cX3_init 5 = .ok (.iconst 0, 1) := dd_all DX3_init_0_ok 3 rfl
theorem dX3_init_6 : decode cX3_init 6 = .ok (.iload_n 1, 1) := dd_all DX3_init_0_ok 4 rfl
theorem dX3_init_7 : decode cX3_init 7 = .ok (.invokestatic 9, 3) := dd_all DX3_init_0_ok 5 rfl
theorem dX3_init_10 : decode cX3_init 10 = .ok (.newarray .int, 2) := dd_all DX3_init_0_ok 6 rfl
theorem dX3_init_12 : decode cX3_init 12 = .ok (.putfield 15, 3) := dd_all DX3_init_0_ok 7 rfl
theorem dX3_init_15 : decode cX3_init 15 = .ok (.return_, 1) := dd_all DX3_init_0_ok 8 rfl
def DX3_noteAt_0 : List (Nat × Instr × Nat) := [(0, .iload_n 1, 1), (1, .ifCond .lt 22, 3), (4, .iload_n 1, 1), (5, .aload_n 0, 1), (6, .getfield 21, 3), (9, .if_icmp .ge 14, 3), (12, .aload_n 0, 1), (13, .getfield 15, 3), (16, .iload_n 1, 1), (17, .invokestatic 25, 3), (20, .goto 4, 3), (23, .iconst (-1), 1), (24, .ireturn, 1)]
theorem DX3_noteAt_0_ok : ∀ q ∈ DX3_noteAt_0, decode cX3_noteAt q.1 = .ok (q.2.1, q.2.2) := by decide +kernel
theorem dX3_noteAt_0 : decode cX3_noteAt 0 = .ok (.iload_n 1, 1) := dd_all DX3_noteAt_0_ok 0 rfl
theorem dX3_noteAt_1 : decode cX3_noteAt 1 = .ok (.ifCond .lt 22, 3) := dd_all DX3_noteAt_0_ok 1 rfl
theorem dX3_noteAt_4 : decode cX3_noteAt 4 = .ok (.iload_n 1, 1) := dd_all DX3_noteAt_0_ok 2 rfl
theorem dX3_noteAt_5 : decode cX3_noteAt 5 = .ok (.aload_n 0, 1) := dd_all DX3_noteAt_0_ok 3 rfl
theorem dX3_noteAt_6 : decode cX3_noteAt 6 = .ok (.getfield 21, 3) := dd_all DX3_noteAt_0_ok 4 rfl
theorem dX3_noteAt_9 : decode cX3_noteAt 9 = .ok (.if_icmp .ge 14, 3) := dd_all DX3_noteAt_0_ok 5 rfl
theorem dX3_noteAt_12 : decode cX3_noteAt 12 = .ok (.aload_n 0, 1) := dd_all DX3_noteAt_0_ok 6 rfl
theorem dX3_noteAt_13 : decode cX3_noteAt 13 = .ok (.getfield 15, 3) := dd_all DX3_noteAt_0_ok 7 rfl
theorem dX3_noteAt_16 : decode cX3_noteAt 16 = .ok (.iload_n 1, 1) := dd_all DX3_noteAt_0_ok 8 rfl
theorem dX3_noteAt_17 : decode cX3_noteAt 17 = .ok (.invokestatic 25, 3) := dd_all DX3_noteAt_0_ok 9 rfl
theorem dX3_noteAt_20 : decode cX3_noteAt 20 = .ok (.goto 4, 3) := dd_all DX3_noteAt_0_ok 10 rfl
theorem dX3_noteAt_23 : decode cX3_noteAt 23 = .ok (.iconst (-1), 1) := dd_all DX3_noteAt_0_ok 11 rfl
theorem dX3_noteAt_24 : decode cX3_noteAt 24 = .ok (.ireturn, 1) := dd_all DX3_noteAt_0_ok 12 rfl
def DX3_indexOf_0 : List (Nat × Instr × Nat) := [(0, .iconst 0, 1), (1, .istore_n 2, 1), (2, .iload_n 2, 1), (3, .aload_n 0, 1), (4, .getfield 21, 3), (7, .if_icmp .ge 23, 3), (10, .aload_n 0, 1), (11, .getfield 15, 3), (14, .iload_n 2, 1), (15, .invokestatic 25, 3), (18, .iload_n 1, 1), (19, .if_icmp .ne 5, 3), (22, .iload_n 2, 1), (23, .ireturn, 1), (24, .iinc 2 1, 3), (27, .goto (-25), 3), (30, .iconst (-1), 1), (31, .ireturn, 1)]
theorem DX3_indexOf_0_ok : ∀ q ∈ DX3_indexOf_0, decode cX3_indexOf q.1 = .ok (q.2.1, q.2.2) := by decide +kernel
theorem dX3_indexOf_0 : decode cX3_indexOf 0 = .ok (.iconst 0, 1) := dd_all DX3_indexOf_0_ok 0 rfl
theorem dX3_indexOf_1 : decode cX3_indexOf 1 = .ok (.istore_n 2, 1) := dd_all DX3_indexOf_0_ok 1 rfl
theorem dX3_indexOf_2 : decode cX3_indexOf 2 = .ok (.iload_n 2, 1) := dd_all DX3_indexOf_0_ok 2 rfl
theorem dX3_indexOf_3 : decode cX3_indexOf 3 = .ok (.aload_n 0, 1) := dd_all DX3_indexOf_0_ok 3 rfl
theorem dX3_indexOf_4 : decode cX3_indexOf 4 = .ok (.getfield 21, 3) := dd_all DX3_indexOf_0_ok 4 rfl
theorem dX3_indexOf_7 : decode cX3_indexOf 7 = .ok (.if_icmp .ge 23, 3) := dd_all DX3_indexOf_0_ok 5 rfl
theorem dX3_indexOf_10 : decode cX3_indexOf 10 = .ok (.aload_n 0, 1) := dd_all DX3_indexOf_0_ok 6 rfl
theorem dX3_indexOf_11 : decode cX3_indexOf 11 = .ok (.getfield 15, 3) := dd_all DX3_indexOf_0_ok 7 rfl
theorem dX3_indexOf_14 : decode cX3_indexOf 14 = .ok (.iload_n 2, 1) := dd_all DX3_indexOf_0_ok 8 rfl
theorem dX3_indexOf_15 : decode cX3_indexOf 15 = .ok (.invokestatic 25, 3) := dd_all DX3_indexOf_0_ok 9 rfl
theorem dX3_indexOf_18 : decode cX3_indexOf 18 = .ok (.iload_n 1, 1) := dd_all DX3_indexOf_0_ok 10 rfl
theorem dX3_indexOf_19 : decode cX3_indexOf 19 = .ok (.if_icmp .ne 5, 3) := dd_all DX3_indexOf_0_ok 11 rfl
theorem dX3_indexOf_22 : decode cX3_indexOf 22 = .ok (.iload_n 2, 1) := dd_all DX3_indexOf_0_ok 12 rfl
theorem dX3_indexOf_23 : decode cX3_indexOf 23 = .ok (.ireturn, 1) := dd_all DX3_indexOf_0_ok 13 rfl
theorem dX3_indexOf_24 : decode cX3_indexOf 24 = .ok (.iinc 2 1, 3) := dd_all DX3_indexOf_0_ok 14 rfl
theorem dX3_indexOf_27 : decode cX3_indexOf 27 = .ok (.goto (-25), 3) := dd_all DX3_indexOf_0_ok 15 rfl
theorem dX3_indexOf_30 : decode cX3_indexOf 30 = .ok (.iconst (-1), 1) := dd_all DX3_indexOf_0_ok 16 rfl
theorem dX3_indexOf_31 : decode cX3_indexOf 31 = .ok (.ireturn, 1) := dd_all DX3_indexOf_0_ok 17 rfl
def DX3_append_0 : List (Nat × Instr × Nat) := [(0, .aload_n 0, 1), (1, .getfield 21, 3), (4, .aload_n 0, 1), (5, .getfield 15, 3), (8, .arraylength, 1), (9, .if_icmp .ge 25, 3), (12, .aload_n 0, 1), (13, .getfield 15, 3), (16, .aload_n 0, 1), (17, .getfield 21, 3), (20, .iload_n 1, 1), (21, .invokestatic 29, 3), (24, .aload_n 0, 1), (25, .dup, 1), (26, .getfield 21, 3), (29, .iconst 1, 1), (30, .iadd, 1), (31, .putfield 21, 3), (34, .return_, 1)]
theorem DX3_append_0_ok : ∀ q ∈ DX3_append_0, decode cX3_append q.1 = .ok (q.2.1, q.2.2) := by decide +kernel
theorem dX3_append_0 : decode cX3_append 0 = .ok (.aload_n 0, 1) := dd_all DX3_append_0_ok 0 rfl
theorem dX3_append_1 : decode cX3_append 1 = .ok (.getfield 21, 3) := dd_all DX3_append_0_ok 1 rfl
theorem dX3_append_4 : decode cX3_append 4 = .ok (.aload_n 0, 1) := dd_all DX3_append_0_ok 2 rfl
theorem dX3_append_5 : decode cX3_append 5 = .ok (.getfield 15, 3) := dd_all DX3_append_0_ok 3 rfl
theorem dX3_append_8 : decode cX3_append 8 = .ok (.arraylength, 1) := dd_all DX3_append_0_ok 4 rfl
theorem dX3_append_9 : decode cX3_append 9 = .ok (.if_icmp .ge 25, 3) := dd_all DX3_append_0_ok 5 rfl
theorem dX3_append_12 : decode cX3_append 12 = .ok (.aload_n 0, 1) := dd_all DX3_append_0_ok 6 rfl
theorem dX3_append_13 : decode cX3_append 13 = .ok (.getfield 15, 3) := dd_all DX3_append_0_ok 7 rfl
theorem dX3_append_16 : decode cX3_append 16 = .ok (.aload_n 0, 1) := dd_all DX3_append_0_ok 8 rfl
theorem dX3_append_17 : decode cX3_append 17 = .ok (.getfield 21, 3) := dd_all DX3_append_0_ok 9 rfl
theorem dX3_append_20 : decode cX3_append 20 = .ok (.iload_n 1, 1) := dd_all DX3_append_0_ok 10 rfl
theorem dX3_append_21 : decode cX3_append 21 = .ok (.invokestatic 29, 3) := dd_all DX3_append_0_ok 11 rfl
theorem dX3_append_24 : decode cX3_append 24 = .ok (.aload_n 0, 1) := dd_all DX3_append_0_ok 12 rfl
theorem dX3_append_25 : decode cX3_append 25 = .ok (.dup, 1) := dd_all DX3_append_0_ok 13 rfl
theorem dX3_append_26 : decode cX3_append 26 = .ok (.getfield 21, 3) := dd_all DX3_append_0_ok 14 rfl
theorem dX3_append_29 : decode cX3_append 29 = .ok (.iconst 1, 1) := dd_all DX3_append_0_ok 15 rfl
theorem dX3_append_30 : decode cX3_append 30 = .ok (.iadd, 1) := dd_all DX3_append_0_ok 16 rfl
theorem dX3_append_31 : decode cX3_append 31 = .ok (.putfield 21, 3) := dd_all DX3_append_0_ok 17 rfl
theorem dX3_append_34 : decode cX3_append 34 = .ok (.return_, 1) := dd_all DX3_append_0_ok 18 rfl
def DX3_removeNote_0 : List (Nat × Instr × Nat) := [(0, .iconst 0, 1), (1, .istore_n 2, 1), (2, .aload_n 0, 1), (3, .getfield 21, 3), (6, .istore_n 3, 1), (7, .iconst 0, 1), (8, .istore 4, 2), (10, .iload 4, 2), (12, .iload_n 3, 1), (13, .if_icmp .ge 39, 3), (16, .aload_n 0, 1), (17, .getfield 15, 3), (20, .iload 4, 2), (22, .invokestatic 25, 3), (25, .istore 5, 2), (27, .iload 5, 2), (29, .iload_n 1, 1), (30, .if_icmp .eq 16, 3), (33, .aload_n 0, 1), (34, .getfield 15, 3), (37, .iload_n 2, 1), (38, .iload 5, 2), (40, .invokestatic 29, 3), (43, .iinc 2 1, 3), (46, .iinc 4 1, 3), (49, .goto (-39), 3), (52, .aload_n 0, 1), (53, .iload_n 2, 1), (54, .putfield 21, 3), (57, .return_, 1)]
theorem DX3_removeNote_0_ok : ∀ q ∈ DX3_removeNote_0, decode cX3_removeNote q.1 = .ok (q.2.1, q.2.2) := by decide +kernel
theorem dX3_removeNote_0 : decode cX3_removeNote 0 = .ok (.iconst 0, 1) := dd_all DX3_removeNote_0_ok 0 rfl
theorem dX3_removeNote_1 : decode cX3_removeNote 1 = .ok (.istore_n 2, 1) := dd_all DX3_removeNote_0_ok 1 rfl
theorem dX3_removeNote_2 : decode cX3_removeNote 2 = .ok (.aload_n 0, 1) := dd_all DX3_removeNote_0_ok 2 rfl
theorem dX3_removeNote_3 : decode cX3_removeNote 3 = .ok (.getfield 21, 3) := dd_all DX3_removeNote_0_ok 3 rfl
theorem dX3_removeNote_6 : decode cX3_removeNote 6 = .ok (.istore_n 3, 1) := dd_all DX3_removeNote_0_ok 4 rfl
theorem dX3_removeNote_7 : decode cX3_removeNote 7 = .ok (.iconst 0, 1) := dd_all DX3_removeNote_0_ok 5 rfl
theorem dX3_removeNote_8 : decode cX3_removeNote 8 = .ok (.istore 4, 2) := dd_all DX3_removeNote_0_ok 6 rfl
theorem dX3_removeNote_10 : decode cX3_removeNote 10 = .ok (.iload 4, 2) := dd_all DX3_removeNote_0_ok 7 rfl
theorem dX3_removeNote_12 : decode cX3_removeNote 12 = .ok (.iload_n 3, 1) := dd_all DX3_removeNote_0_ok 8 rfl
theorem dX3_removeNote_13 : decode cX3_removeNote 13 = .ok (.if_icmp .ge 39, 3) := dd_all DX3_removeNote_0_ok 9 rfl
theorem dX3_removeNote_16 : decode cX3_removeNote 16 = .ok (.aload_n 0, 1) := dd_all DX3_removeNote_0_ok 10 rfl
theorem dX3_removeNote_17 : decode cX3_removeNote 17 = .ok (.getfield 15, 3) := dd_all DX3_removeNote_0_ok 11 rfl
theorem dX3_removeNote_20 : decode cX3_removeNote 20 = .ok (.iload 4, 2) := dd_all DX3_removeNote_0_ok 12 rfl
theorem dX3_removeNote_22 : decode cX3_removeNote 22 = .ok (.invokestatic 25, 3) := dd_all DX3_removeNote_0_ok 13 rfl
theorem dX3_removeNote_25 : decode cX3_removeNote 25 = .ok (.istore 5, 2) := dd_all DX3_removeNote_0_ok 14 rfl
theorem dX3_removeNote_27 : decode cX3_removeNote 27 = .ok (.iload 5, 2) := dd_all DX3_removeNote_0_ok 15 rfl
theorem dX3_removeNote_29 : decode cX3_removeNote 29 = .ok (.iload_n 1, 1) := dd_all DX3_removeNote_0_ok 16 rfl
theorem dX3_removeNote_30 : decode cX3_removeNote 30 = .ok (.if_icmp .eq 16, 3) := dd_all DX3_removeNote_0_ok 17 rfl
theorem dX3_removeNote_33 : decode cX3_removeNote 33 = .ok (.aload_n 0, 1) := dd_all DX3_removeNote_0_ok 18 rfl
theorem dX3_removeNote_34 : decode cX3_removeNote 34 = .ok (.getfield 15, 3) := dd_all DX3_removeNote_0_ok 19 rfl
theorem dX3_removeNote_37 : decode cX3_removeNote 37 = .ok (.iload_n 2, 1) := dd_all DX3_removeNote_0_ok 20 rfl
theorem dX3_removeNote_38 : decode cX3_removeNote 38 = .ok (.iload 5, 2) := dd_all DX3_removeNote_0_ok 21 rfl
theorem dX3_removeNote_40 : decode cX3_removeNote 40 = .ok (.invokestatic 29, 3) := dd_all DX3_removeNote_0_ok 22 rfl
theorem dX3_removeNote_43 : decode cX3_removeNote 43 = .ok (.iinc 2 1, 3) := dd_all DX3_removeNote_0_ok 23 rfl
theorem dX3_removeNote_46 : decode cX3_removeNote 46 = .ok (.iinc 4 1, 3) := dd_all DX3_removeNote_0_ok 24 rfl
theorem dX3_removeNote_49 : decode cX3_removeNote 49 = .ok (.goto (-39), 3) := dd_all DX3_removeNote_0_ok 25 rfl
theorem dX3_removeNote_52 : decode cX3_removeNote 52 = .ok (.aload_n 0, 1) := dd_all DX3_removeNote_0_ok 26 rfl
theorem dX3_removeNote_53 : decode cX3_removeNote 53 = .ok (.iload_n 2, 1) := dd_all DX3_removeNote_0_ok 27 rfl
theorem dX3_removeNote_54 : decode cX3_removeNote 54 = .ok (.putfield 21, 3) := dd_all DX3_removeNote_0_ok 28 rfl
theorem dX3_removeNote_57 : decode cX3_removeNote 57 = .ok (.return_, 1) := dd_all DX3_removeNote_0_ok 29 rfl
def DX3_copyFrom_0 : List (Nat × Instr × Nat) := [(0, .aload_n 1, 1), (1, .getfield 15, 3), (4, .aload_n 0, 1), (5, .getfield 15, 3), (8, .aload_n 1, 1), (9, .getfield 21, 3), (12, .invokestatic 33, 3), (15, .aload_n 0, 1), (16, .aload_n 1, 1), (17, .getfield 21, 3), (20, .putfield 21, 3), (23, .return_, 1)]
theorem DX3_copyFrom_0_ok : ∀ q ∈ DX3_copyFrom_0, decode cX3_copyFrom q.1 = .ok (q.2.1, q.2.2) := by decide +kernel
theorem dX3_copyFrom_0 : decode cX3_copyFrom 0 = .ok (.aload_n 1, 1) := dd_all DX3_copyFrom_0_ok 0 rfl
theorem dX3_copyFrom_1 : decode cX3_copyFrom 1 = .ok (.getfield 15, 3) := dd_all DX3_copyFrom_0_ok 1 rfl
theorem dX3_copyFrom_4 : decode cX3_copyFrom 4 = .ok (.aload_n 0, 1) := dd_all DX3_copyFrom_0_ok 2 rfl
theorem dX3_copyFrom_5 : decode cX3_copyFrom 5 = .ok (.getfield 15, 3) := dd_all DX3_copyFrom_0_ok 3 rfl
theorem dX3_copyFrom_8 : decode cX3_copyFrom 8 = .ok (.aload_n 1, 1) := dd_all DX3_copyFrom_0_ok 4 rfl
theorem dX3_copyFrom_9 : decode cX3_copyFrom 9 = .ok (.getfield 21, 3) := dd_all DX3_copyFrom_0_ok 5 rfl
theorem dX3_copyFrom_12 : decode cX3_copyFrom 12 = .ok (.invokestatic 33, 3) := dd_all DX3_copyFrom_0_ok 6 rfl
theorem dX3_copyFrom_15 : decode cX3_copyFrom 15 = .ok (.aload_n 0, 1) := dd_all DX3_copyFrom_0_ok 7 rfl
theorem dX3_copyFrom_16 : decode cX3_copyFrom 16 = .ok (.aload_n 1, 1) := dd_all DX3_copyFrom_0_ok 8 rfl
theorem dX3_copyFrom_17 : decode cX3_copyFrom 17 = .ok (.getfield 21, 3) := dd_all DX3_copyFrom_0_ok 9 rfl
theorem dX3_copyFrom_20 : decode cX3_copyFrom 20 = .ok (.putfield 21, 3) := dd_all DX3_copyFrom_0_ok 10 rfl
theorem dX3_copyFrom_23 : decode cX3_copyFrom 23 = .ok (.return_, 1) := dd_all DX3_copyFrom_0_ok 11 rfl
def DX4_init_0 : List (Nat × Instr × Nat) := [(0, .aload_n 0, 1), (1, .invokespecial 3, 3), (4, .aload_n 0, 1), (5, .bipush 7, 2), (7, .newarray .int, 2), (9, .putfield 9, 3), (12, .aload_n 0, 1), (13, .bipush 7, 2), (15, .newarray .int, 2), (17, .putfield 15, 3), (20, .return_, 1)]
theorem DX4_init_0_ok : ∀ q ∈ DX4_init_0, decode cX4_init q.1 = .ok (q.2.1, q.2.2) := by decide +kernel
theorem dX4_init_0 : decode cX4_init 0 = .ok (.aload_n 0, 1) := dd_all DX4_init_0_ok 0 rfl
theorem dX4_init_1 : decode cX4_init 1 = .ok (.invokespecial 3, 3) := dd_all DX4_init_0_ok 1 rfl
theorem dX4_init_4 : decode cX4_init 4 = .ok (.aload_n 0, 1) := dd_all DX4_init_0_ok 2 rfl
theorem dX4_init_5 : decode cX4_init 5 = .ok (.bipush 7, 2) := dd_all DX4_init_0_ok 3 rfl
theorem dX4_init_7 : decode cX4_init 7 = .ok (.newarray .int, 2) := dd_all DX4_init_0_ok 4 rfl
theorem dX4_init_9 : decode cX4_init 9 = .ok (.putfield 9, 3) := dd_all DX4_init_0_ok 5 rfl
theorem dX4_init_12 : decode cX4_init 12 = .ok (.aload_n 0, 1) := dd_all DX4_init_0_ok 6 rfl
theorem dX4_init_13 : decode cX4_init 13 = .ok (.bipush 7, 2) := dd_all DX4_init_0_ok 7 rfl
theorem dX4_init_15 : decode cX4_init 15 = .ok (.newarray .int, 2) := dd_all DX4_init_0_ok 8 rfl
theorem dX4_init_17 : decode cX4_init 17 = .ok (.putfield 15, 3) := dd_all DX4_init_0_ok 9 rfl
theorem dX4_init_20 : decode cX4_init 20 = .ok (.return_, 1) := dd_all DX4_init_0_ok 10 rfl
def DX4_result_0 : List (Nat × Instr × Nat) := [(0, .aload_n 0, 1), (1, .iconst 0, 1), (2, .invokevirtual 18, 3), (5, .iconst 0, 1), (6, .istore_n 3, 1), (7, .iload_n 3, 1), (8, .aload_n 1, 1), (9, .getfield 22, 3), (12, .if_icmp .ge 142, 3), (15, .aload_n 1, 1), (16, .iload_n 3, 1), (17, .invokevirtual 28, 3), (20, .istore 4, 2), (22, .iload 4, 2), (24, .invokestatic 32, 3), (27, .istore 5, 2), (29, .iload 5, 2), (31, .iconst (-1), 1), (32, .if_icmp .eq 23, 3), (35, .aload_n 0, 1), (36, .aload_n 1, 1), (37, .iload_n 3, 1), (38, .iconst 1, 1), (39, .iadd, 1), (40, .aload_n 2, 1), (41, .iload 5, 2), (43, .invokestatic 36, 3), (46, .invokestatic 40, 3), (49, .invokevirtual 44, 3), (52, .goto 96, 3), (55, .iload 4, 2), (57, .bipush 40, 2), (59, .if_icmp .ne 16, 3), (62, .aload_n 0, 1), (63, .aload_n 0, 1), (64, .getfield 47, 3), (67, .iconst 1, 1), (68, .iadd, 1), (69, .invokevirtual 18, 3), (72, .goto 76, 3)]
theorem DX4_result_0_ok : ∀ q ∈ DX4_result_0, decode cX4_result q.1 = .ok (q.2.1, q.2.2) := by decide +kernel
theorem dX4_result_0 : decode cX4_result 0 = .ok (.aload_n 0, 1) := dd_all DX4_result_0_ok 0 rfl
theorem dX4_result_1 : decode cX4_result 1 = .ok (.iconst 0, 1) := dd_all DX4_result_0_ok 1 rfl
theorem dX4_result_2 : decode cX4_result 2 = .ok (.invokevirtual 18, 3) := dd_all DX4_result_0_ok 2 rfl
theorem dX4_result_5 : decode cX4_result 5 = .ok (.iconst 0, 1) := dd_all DX4_result_0_ok 3 rfl
theorem dX4_result_6 : decode cX4_result 6 = .ok (.istore_n 3, 1) := dd_all DX4_result_0_ok 4 rfl
theorem dX4_result_7 : decode cX4_result 7 = .ok (.iload_n 3, 1) := dd_all DX4_result_0_ok 5 rfl
theorem dX4_result_8 : decode cX4_result 8 = .ok (.aload_n 1, 1) := dd_all DX4_result_0_ok 6 rfl
theorem dX4_result_9 : decode cX4_result 9 = .ok (.getfield 22, 3) := dd_all DX4_result_0_ok 7 rfl
theorem dX4_result_12 : decode cX4_result 12 = .ok (.if_icmp .ge 142, 3) := dd_all DX4_result_0_ok 8 rfl
theorem dX4_result_15 : decode cX4_result 15 = .ok (.aload_n 1, 1) := dd_all DX4_result_0_ok 9 rfl
theorem dX4_result_16 : decode cX4_result 16 = .ok (.iload_n 3, 1) := dd_all DX4_result_0_ok 10 rfl
theorem dX4_result_17 : decode cX4_result 17 = .ok (.invokevirtual 28, 3) := dd_all DX4_result_0_ok 11 rfl
theorem dX4_result_20 : decode cX4_result 20 = .ok (.istore 4, 2) := dd_all DX4_result_0_ok 12 rfl
theorem dX4_result_22 : decode cX4_result 22 = .ok (.iload 4, 2) := dd_all DX4_result_0_ok 13 rfl
theorem dX4_result_24 : decode cX4_result 24 = .ok (.invokestatic 32, 3) := dd_all DX4_result_0_ok 14 rfl
theorem dX4_result_27 : decode cX4_result 27 = .ok (.istore 5, 2) := dd_all DX4_result_0_ok 15 rfl
theorem dX4_result_29 : decode cX4_result 29 = .ok (.iload 5, 2) := dd_all DX4_result_0_ok 16 rfl
theorem dX4_result_31 : decode cX4_result 31 = .ok (.iconst (-1), 1) := dd_all DX4_result_0_ok 17 rfl
theorem dX4_result_32 : decode cX4_result 32 = .ok (.if_icmp .eq 23, 3) := dd_all DX4_result_0_ok 18 rfl
theorem dX4_result_35 : decode cX4_result 35 = .ok (.aload_n 0, 1) := dd_all DX4_result_0_ok 19 rfl
theorem dX4_result_36 : decode cX4_result 36 = .ok (.aload_n 1, 1) := dd_all DX4_result_0_ok 20 rfl
theorem dX4_result_37 : decode cX4_result 37 = .ok (.iload_n 3, 1) := dd_all DX4_result_0_ok 21 rfl
theorem dX4_result_38 : decode cX4_result 38 = .ok (.iconst 1, 1) := dd_all DX4_result_0_ok 22 rfl
theorem dX4_result_39 : decode cX4_result 39 = .ok (.iadd, 1) := dd_all DX4_result_0_ok 23 rfl
theorem dX4_result_40 : decode cX4_result 40 = .ok (.aload_n 2, 1) := dd_all DX4_result_0_ok 24 rfl
theorem dX4_result_41 : decode cX4_result 41 = .ok (.iload 5, 2) := dd_all DX4_result_0_ok 25 rfl
theorem dX4_result_43 : decode cX4_result 43 = .ok (.invokestatic 36, 3) := dd_all DX4_result_0_ok 26 rfl
theorem dX4_result_46 : decode cX4_result 46 = .ok (.invokestatic 40, 3) := dd_all DX4_result_0_ok 27 rfl
theorem dX4_result_49 : decode cX4_result 49 = .ok (.invokevirtual 44, 3) := dd_all DX4_result_0_ok 28 rfl
theorem dX4_result_52 : decode cX4_result 52 = .ok (.goto 96, 3) := dd_all DX4_result_0_ok 29 rfl
theorem dX4_result_55 : decode cX4_result 55 = .ok (.iload 4, 2) := dd_all DX4_result_0_ok 30 rfl
theorem dX4_result_57 : decode cX4_result 57 = .ok (.bipush 40, 2) := dd_all DX4_result_0_ok 31 rfl
theorem dX4_result_59 : decode cX4_result 59 = .ok (.if_icmp .ne 16, 3) := dd_all DX4_result_0_ok 32 rfl
theorem dX4_result_62 : decode cX4_result 62 = .ok (.aload_n 0, 1) := dd_all DX4_result_0_ok 33 rfl
theorem dX4_result_63 : decode cX4_result 63 = .ok (.aload_n 0, 1) := dd_all DX4_result_0_ok 34 rfl
theorem dX4_result_64 : decode cX4_result 64 = .ok (.getfield 47, 3) := dd_all DX4_result_0_ok 35 rfl
theorem dX4_result_67 : decode cX4_result 67 = .ok (.iconst 1, 1) := dd_all DX4_result_0_ok 36 rfl
theorem dX4_result_68 : decode cX4_result 68 = .ok (.iadd, 1) := dd_all DX4_result_0_ok 37 rfl
theorem dX4_result_69 : decode cX4_result 69 = .ok (.invokevirtual 18, 3) := dd_all DX4_result_0_ok 38 rfl
theorem dX4_result_72 : decode cX4_result 72 = .ok (.goto 76, 3) := dd_all DX4_result_0_ok 39 rfl
def DX4_result_40 : List (Nat × Instr × Nat) := [(75, .iload 4, 2), (77, .bipush 41, 2), (79, .if_icmp .ne 42, 3), (82, .aload_n 0, 1), (83, .getfield 9, 3), (86, .aload_n 0, 1), (87, .getfield 47, 3), (90, .invokestatic 36, 3), (93, .istore 6, 2), (95, .aload_n 0, 1), (96, .dup, 1), (97, .getfield 47, 3), (100, .iconst 1, 1), (101, .isub, 1), (102, .putfield 47, 3), (105, .aload_n 0, 1), (106, .aload_n 1, 1), (107, .iload_n 3, 1), (108, .iconst 1, 1), (109, .iadd, 1), (110, .iload 6, 2), (112, .invokestatic 40, 3), (115, .invokevirtual 44, 3), (118, .goto 30, 3), (121, .iload 4, 2), (123, .bipush 43, 2), (125, .if_icmp .eq 10, 3), (128, .iload 4, 2), (130, .bipush 94, 2), (132, .if_icmp .ne 16, 3), (135, .aload_n 0, 1), (136, .getfield 15, 3), (139, .aload_n 0, 1), (140, .getfield 47, 3), (143, .iload 4, 2), (145, .invokestatic 50, 3), (148, .iinc 3 1, 3), (151, .goto (-144), 3), (154, .aload_n 0, 1), (155, .getfield 9, 3)]
theorem DX4_result_40_ok : ∀ q ∈ DX4_result_40, decode cX4_result q.1 = .ok (q.2.1, q.2.2) := by decide +kernel
theorem dX4_result_75 : decode cX4_result 75 = .ok (.iload 4, 2) := dd_all DX4_result_40_ok 0 rfl
theorem dX4_result_77 : decode cX4_result 77 = .ok (.bipush 41, 2) := dd_all DX4_result_40_ok 1 rfl
theorem dX4_result_79 : decode cX4_result 79 = .ok (.if_icmp .ne 42, 3) := dd_all DX4_result_40_ok 2 rfl
theorem dX4_result_82 : decode cX4_result 82 = .ok (.aload_n 0, 1) := dd_all DX4_result_40_ok 3 rfl
theorem dX4_result_83 : decode cX4_result 83 = .ok (.getfield 9, 3) := dd_all DX4_result_40_ok 4 rfl
theorem dX4_result_86 : decode cX4_result 86 = .ok (.aload_n 0, 1) := dd_all DX4_result_40_ok 5 rfl
theorem dX4_result_87 : decode cX4_result 87 = .ok (.getfield 47, 3) := dd_all DX4_result_40_ok 6 rfl
theorem dX4_result_90 : decode cX4_result 90 = .ok (.invokestatic 36, 3) := dd_all DX4_result_40_ok 7 rfl
theorem dX4_result_93 : decode cX4_result 93 = .ok (.istore 6, 2) := dd_all DX4_result_40_ok 8 rfl
theorem dX4_result_95 : decode cX4_result 95 = .ok (.aload_n 0, 1) := dd_all DX4_result_40_ok 9 rfl
theorem dX4_result_96 : decode cX4_result 96 = .ok (.dup, 1) := dd_all DX4_result_40_ok 10 rfl
theorem dX4_result_97 : decode cX4_result 97 = .ok (.getfield 47, 3) := dd_all DX4_result_40_ok 11 rfl
theorem dX4_result_100 : decode cX4_result 100 = .ok (.iconst 1, 1) := dd_all DX4_result_40_ok 12 rfl
theorem dX4_result_101 : decode cX4_result 101 = .ok (.isub, 1) := dd_all DX4_result_40_ok 13 rfl
theorem dX4_result_102 : decode cX4_result 102 = .ok (.putfield 47, 3) := dd_all DX4_result_40_ok 14 rfl
theorem dX4_result_105 : decode cX4_result 105 = .ok (.aload_n 0, 1) := dd_all DX4_result_40_ok 15 rfl
theorem dX4_result_106 : decode cX4_result 106 = .ok (.aload_n 1, 1) := dd_all DX4_result_40_ok 16 rfl
theorem dX4_result_107 : decode cX4_result 107 = .ok (.iload_n 3, 1) := dd_all DX4_result_40_ok 17 rfl
theorem dX4_result_108 : decode cX4_result 108 = .ok (.iconst 1, 1) := dd_all DX4_result_40_ok 18 rfl
theorem dX4_result_109 : decode cX4_result 109 = .ok (.iadd, 1) := dd_all DX4_result_40_ok 19 rfl
theorem dX4_result_110 : decode cX4_result 110 = .ok (.iload 6, 2) := dd_all DX4_result_40_ok 20 rfl
theorem dX4_result_112 : decode cX4_result 112 = .ok (.invokestatic 40, 3) := dd_all DX4_result_40_ok 21 rfl
theorem dX4_result_115 : decode cX4_result 115 = .ok (.invokevirtual 44, 3) := dd_all DX4_result_40_ok 22 rfl
theorem dX4_result_118 : decode cX4_result 118 = .ok (.goto 30, 3) := dd_all DX4_result_40_ok 23 rfl
theorem dX4_result_121 : decode cX4_result 121 = .ok (.iload 4, 2) := dd_all DX4_result_40_ok 24 rfl
theorem dX4_result_123 : decode cX4_result 123 = .ok (.bipush 43, 2) := dd_all DX4_result_40_ok 25 rfl
theorem dX4_result_125 : decode cX4_result 125 = .ok (.if_icmp .eq 10, 3) := dd_all DX4_result_40_ok 26 rfl
theorem dX4_result_128 : decode cX4_result 128 = .ok (.iload 4, 2) := dd_all DX4_result_40_ok 27 rfl
theorem dX4_result_130 : decode cX4_result 130 = .ok (.bipush 94, 2) := dd_all DX4_result_40_ok 28 rfl
theorem dX4_result_132 : decode cX4_result 132 = .ok (.if_icmp .ne 16, 3) := dd_all DX4_result_40_ok 29 rfl
theorem dX4_result_135 : decode cX4_result 135 = .ok (.aload_n 0, 1) := dd_all DX4_result_40_ok 30 rfl
theorem dX4_result_136 : decode cX4_result 136 = .ok (.getfield 15, 3) := dd_all DX4_result_40_ok 31 rfl
theorem dX4_result_139 : decode cX4_result 139 = .ok (.aload_n 0, 1) := dd_all DX4_result_40_ok 32 rfl
theorem dX4_result_140 : decode cX4_result 140 = .ok (.getfield 47, 3) := dd_all DX4_result_40_ok 33 rfl
theorem dX4_result_143 : decode cX4_result 143 = .ok (.iload 4, 2) := dd_all DX4_result_40_ok 34 rfl
theorem dX4_result_145 : decode cX4_result 145 = .ok (.invokestatic 50, 3) := dd_all DX4_result_40_ok 35 rfl
theorem dX4_result_148 : decode cX4_result 148 = .ok (.iinc 3 1, 3) := dd_all DX4_result_40_ok 36 rfl
theorem dX4_result_151 : decode cX4_result 151 = .ok (.goto (-144), 3) := dd_all DX4_result_40_ok 37 rfl
theorem dX4_result_154 : decode cX4_result 154 = .ok (.aload_n 0, 1) := dd_all DX4_result_40_ok 38 rfl
theorem dX4_result_155 : decode cX4_result 155 = .ok (.getfield 9, 3) := dd_all DX4_result_40_ok 39 rfl
def DX4_result_80 : List (Nat × Instr × Nat) := [(158, .iconst 0, 1), (159, .invokestatic 36, 3), (162, .ireturn, 1)]
theorem DX4_result_80_ok : ∀ q ∈ DX4_result_80, decode cX4_result q.1 = .ok (q.2.1, q.2.2) := by decide +kernel
theorem dX4_result_158 : decode cX4_result 158 = .ok (.iconst 0, 1) := dd_all DX4_result_80_ok 0 rfl
theorem dX4_result_159 : decode cX4_result 159 = .ok (.invokestatic 36, 3) := dd_all DX4_result_80_ok 1 rfl
theorem dX4_result_162 : decode cX4_result 162 = .ok (.ireturn, 1) := dd_all DX4_result_80_ok 2 rfl
def DX4_begin_0 : List (Nat × Instr × Nat) := [(0, .aload_n 0, 1), (1, .iload_n 1, 1), (2, .putfield 47, 3), (5, .aload_n 0, 1), (6, .getfield 9, 3), (9, .iload_n 1, 1), (10, .iconst 0, 1), (11, .invokestatic 50, 3), (14, .aload_n 0, 1), (15, .getfield 15, 3), (18, .iload_n 1, 1), (19, .bipush 43, 2), (21, .invokestatic 50, 3), (24, .return_, 1)]
theorem DX4_begin_0_ok : ∀ q ∈ DX4_begin_0, decode cX4_begin q.1 = .ok (q.2.1, q.2.2) := by decide +kernel
theorem dX4_begin_0 : decode cX4_begin 0 = .ok (.aload_n 0, 1) := dd_all DX4_begin_0_ok 0 rfl
theorem dX4_begin_1 : decode cX4_begin 1 = .ok (.iload_n 1, 1) := dd_all DX4_begin_0_ok 1 rfl
theorem dX4_begin_2 : decode cX4_begin 2 = .ok (.putfield 47, 3) := dd_all DX4_begin_0_ok 2 rfl
theorem dX4_begin_5 : decode cX4_begin 5 = .ok (.aload_n 0, 1) := dd_all DX4_begin_0_ok 3 rfl
theorem dX4_begin_6 : decode cX4_begin 6 = .ok (.getfield 9, 3) := dd_all DX4_begin_0_ok 4 rfl
theorem dX4_begin_9 : decode cX4_begin 9 = .ok (.iload_n 1, 1) := dd_all DX4_begin_0_ok 5 rfl
theorem dX4_begin_10 : decode cX4_begin 10 = .ok (.iconst 0, 1) := dd_all DX4_begin_0_ok 6 rfl
theorem dX4_begin_11 : decode cX4_begin 11 = .ok (.invokestatic 50, 3) := dd_all DX4_begin_0_ok 7 rfl
theorem dX4_begin_14 : decode cX4_begin 14 = .ok (.aload_n 0, 1) := dd_all DX4_begin_0_ok 8 rfl
theorem dX4_begin_15 : decode cX4_begin 15 = .ok (.getfield 15, 3) := dd_all DX4_begin_0_ok 9 rfl
theorem dX4_begin_18 : decode cX4_begin 18 = .ok (.iload_n 1, 1) := dd_all DX4_begin_0_ok 10 rfl
theorem dX4_begin_19 : decode cX4_begin 19 = .ok (.bipush 43, 2) := dd_all DX4_begin_0_ok 11 rfl
theorem dX4_begin_21 : decode cX4_begin 21 = .ok (.invokestatic 50, 3) := dd_all DX4_begin_0_ok 12 rfl
theorem dX4_begin_24 : decode cX4_begin 24 = .ok (.return_, 1) := dd_all DX4_begin_0_ok 13 rfl
def DX4_join_0 : List (Nat × Instr × Nat) := [(0, .aload_n 0, 1), (1, .getfield 9, 3), (4, .aload_n 0, 1), (5, .getfield 47, 3), (8, .invokestatic 36, 3), (11, .istore_n 2, 1), (12, .aload_n 0, 1), (13, .getfield 15, 3), (16, .aload_n 0, 1), (17, .getfield 47, 3), (20, .invokestatic 36, 3), (23, .bipush 43, 2), (25, .if_icmp .ne 9, 3), (28, .iload_n 2, 1), (29, .iload_n 1, 1), (30, .iadd, 1), (31, .goto 8, 3), (34, .iload_n 2, 1), (35, .iload_n 1, 1), (36, .invokestatic 54, 3), (39, .istore_n 3, 1), (40, .aload_n 0, 1), (41, .getfield 9, 3), (44, .aload_n 0, 1), (45, .getfield 47, 3), (48, .ldc 60, 2), (50, .iload_n 3, 1), (51, .invokestatic 61, 3), (54, .invokestatic 50, 3), (57, .return_, 1)]
theorem DX4_join_0_ok : ∀ q ∈ DX4_join_0, decode cX4_join q.1 = .ok (q.2.1, q.2.2) := by decide +kernel
theorem dX4_join_0 : decode cX4_join 0 = .ok (.aload_n 0, 1) := dd_all DX4_join_0_ok 0 rfl
theorem dX4_join_1 : decode cX4_join 1 = .ok (.getfield 9, 3) := dd_all DX4_join_0_ok 1 rfl
theorem dX4_join_4 : decode cX4_join 4 = .ok (.aload_n 0, 1) := dd_all DX4_join_0_ok 2 rfl
theorem dX4_join_5 : decode cX4_join 5 = .ok (.getfield 47, 3) := dd_all DX4_join_0_ok 3 rfl
theorem dX4_join_8 : decode cX4_join 8 = .ok (.invokestatic 36, 3) := dd_all DX4_join_0_ok 4 rfl
theorem dX4_join_11 : decode cX4_join 11 = .ok (.istore_n 2, 1) := dd_all DX4_join_0_ok 5 rfl
theorem dX4_join_12 : decode cX4_join 12 = .ok (.aload_n 0, 1) := dd_all DX4_join_0_ok 6 rfl
theorem dX4_join_13 : decode cX4_join 13 = .ok (.getfield 15, 3) := dd_all DX4_join_0_ok 7 rfl
theorem dX4_join_16 : decode cX4_join 16 = .ok (.aload_n 0, 1) := dd_all DX4_join_0_ok 8 rfl
theorem dX4_join_17 : decode cX4_join 17 = .ok (.getfield 47, 3) := dd_all DX4_join_0_ok 9 rfl
theorem dX4_join_20 : decode cX4_join 20 = .ok (.invokestatic 36, 3) := dd_all DX4_join_0_ok 10 rfl
theorem dX4_join_23 : decode cX4_join 23 = .ok (.bipush 43, 2) := dd_all DX4_join_0_ok 11 rfl
theorem dX4_join_25 : decode cX4_join 25 = .ok (.if_icmp .ne 9, 3) := dd_all DX4_join_0_ok 12 rfl
theorem dX4_join_28 : decode cX4_join 28 = .ok (.iload_n 2, 1) := dd_all DX4_join_0_ok 13 rfl
theorem dX4_join_29 : decode cX4_join 29 = .ok (.iload_n 1, 1) := dd_all DX4_join_0_ok 14 rfl
theorem dX4_join_30 : decode cX4_join 30 = .ok (.iadd, 1) := dd_all DX4_join_0_ok 15 rfl
theorem dX4_join_31 : decode cX4_join 31 = .ok (.goto 8, 3) := dd_all DX4_join_0_ok 16 rfl
theorem dX4_join_34 : decode cX4_join 34 = .ok (.iload_n 2, 1) := dd_all DX4_join_0_ok 17 rfl
theorem dX4_join_35 : decode cX4_join 35 = .ok (.iload_n 1, 1) := dd_all DX4_join_0_ok 18 rfl
theorem dX4_join_36 : decode cX4_join 36 = .ok (.invokestatic 54, 3) := dd_all DX4_join_0_ok 19 rfl
theorem dX4_join_39 : decode cX4_join 39 = .ok (.istore_n 3, 1) := dd_all DX4_join_0_ok 20 rfl
theorem dX4_join_40 : decode cX4_join 40 = .ok (.aload_n 0, 1) := dd_all DX4_join_0_ok 21 rfl
theorem dX4_join_41 : decode cX4_join 41 = .ok (.getfield 9, 3) := dd_all DX4_join_0_ok 22 rfl
theorem dX4_join_44 : decode cX4_join 44 = .ok (.aload_n 0, 1) := dd_all DX4_join_0_ok 23 rfl
theorem dX4_join_45 : decode cX4_join 45 = .ok (.getfield 47, 3) := dd_all DX4_join_0_ok 24 rfl
theorem dX4_join_48 : decode cX4_join 48 = .ok (.ldc 60, 2) := dd_all DX4_join_0_ok 25 rfl
theorem dX4_join_50 : decode cX4_join 50 = .ok (.iload_n 3, 1) := dd_all DX4_join_0_ok 26 rfl
theorem dX4_join_51 : decode cX4_join 51 = .ok (.invokestatic 61, 3) := dd_all DX4_join_0_ok 27 rfl
theorem dX4_join_54 : decode cX4_join 54 = .ok (.invokestatic 50, 3) := dd_all DX4_join_0_ok 28 rfl
theorem dX4_join_57 : decode cX4_join 57 = .ok (.return_, 1) := dd_all DX4_join_0_ok 29 rfl
def DX4_times_0 : List (Nat × Instr × Nat) := [(0, .aload_n 0, 1), (1, .iload_n 1, 1), (2, .invokevirtual 28, 3), (5, .bipush 42, 2), (7, .if_icmp .eq 5, 3), (10, .iload_n 2, 1), (11, .ireturn, 1), (12, .ldc 60, 2), (14, .iload_n 2, 1), (15, .aload_n 0, 1), (16, .iload_n 1, 1), (17, .iconst 1, 1), (18, .iadd, 1), (19, .invokevirtual 28, 3), (22, .bipush 48, 2), (24, .isub, 1), (25, .imul, 1), (26, .invokestatic 61, 3), (29, .ireturn, 1)]
theorem DX4_times_0_ok : ∀ q ∈ DX4_times_0, decode cX4_times q.1 = .ok (q.2.1, q.2.2) := by decide +kernel
theorem dX4_times_0 : decode cX4_times 0 = .ok (.aload_n 0, 1) := dd_all DX4_times_0_ok 0 rfl
theorem dX4_times_1 : decode cX4_times 1 = .ok (.iload_n 1, 1) := dd_all DX4_times_0_ok 1 rfl
theorem dX4_times_2 : decode cX4_times 2 = .ok (.invokevirtual 28, 3) := dd_all DX4_times_0_ok 2 rfl
theorem dX4_times_5 : decode cX4_times 5 = .ok (.bipush 42, 2) := dd_all DX4_times_0_ok 3 rfl
theorem dX4_times_7 : decode cX4_times 7 = .ok (.if_icmp .eq 5, 3) := dd_all DX4_times_0_ok 4 rfl
theorem dX4_times_10 : decode cX4_times 10 = .ok (.iload_n 2, 1) := dd_all DX4_times_0_ok 5 rfl
theorem dX4_times_11 : decode cX4_times 11 = .ok (.ireturn, 1) := dd_all DX4_times_0_ok 6 rfl
theorem dX4_times_12 : decode cX4_times 12 = .ok (.ldc 60, 2) := dd_all DX4_times_0_ok 7 rfl
theorem dX4_times_14 : decode cX4_times 14 = .ok (.iload_n 2, 1) := dd_all DX4_times_0_ok 8 rfl
theorem dX4_times_15 : decode cX4_times 15 = .ok (.aload_n 0, 1) := dd_all DX4_times_0_ok 9 rfl
theorem dX4_times_16 : decode cX4_times 16 = .ok (.iload_n 1, 1) := dd_all DX4_times_0_ok 10 rfl
theorem dX4_times_17 : decode cX4_times 17 = .ok (.iconst 1, 1) := dd_all DX4_times_0_ok 11 rfl
theorem dX4_times_18 : decode cX4_times 18 = .ok (.iadd, 1) := dd_all DX4_times_0_ok 12 rfl
theorem dX4_times_19 : decode cX4_times 19 = .ok (.invokevirtual 28, 3) := dd_all DX4_times_0_ok 13 rfl
theorem dX4_times_22 : decode cX4_times 22 = .ok (.bipush 48, 2) := dd_all DX4_times_0_ok 14 rfl
theorem dX4_times_24 : decode cX4_times 24 = .ok (.isub, 1) := dd_all DX4_times_0_ok 15 rfl
theorem dX4_times_25 : decode cX4_times 25 = .ok (.imul, 1) := dd_all DX4_times_0_ok 16 rfl
theorem dX4_times_26 : decode cX4_times 26 = .ok (.invokestatic 61, 3) := dd_all DX4_times_0_ok 17 rfl
theorem dX4_times_29 : decode cX4_times 29 = .ok (.ireturn, 1) := dd_all DX4_times_0_ok 18 rfl
def DX5_init_0 : List (Nat × Instr × Nat) := [(0, .aload_n 0, 1), (1, .invokespecial 3, 3), (4, .aload_n 0, 1), (5, .sipush 200, 3), (8, .newarray .int, 2), (10, .putfield 9, 3), (13, .aload_n 0, 1), (14, .sipush 200, 3), (17, .newarray .int, 2), (19, .putfield 15, 3), (22, .aload_n 0, 1), (23, .sipush 200, 3), (26, .newarray .int, 2), (28, .putfield 18, 3), (31, .aload_n 0, 1), (32, .sipush 200, 3), (35, .newarray .int, 2), (37, .putfield 21, 3), (40, .aload_n 0, 1), (41, .sipush 200, 3), (44, .newarray .int, 2), (46, .putfield 24, 3), (49, .aload_n 0, 1), (50, .sipush 200, 3), (53, .newarray .int, 2), (55, .putfield 27, 3), (58, .aload_n 0, 1), (59, .sipush 200, 3), (62, .newarray .int, 2), (64, .putfield 30, 3), (67, .return_, 1)]
theorem DX5_init_0_ok : ∀ q ∈ DX5_init_0, decode cX5_init q.1 = .ok (q.2.1, q.2.2) := by decide +kernel
theorem dX5_init_0 : decode cX5_init 0 = .ok (.aload_n 0, 1) := dd_all DX5_init_0_ok 0 rfl
theorem dX5_init_1 : decode cX5_init 1 = .ok (.invokespecial 3, 3) := dd_all DX5_init_0_ok 1 rfl
theorem dX5_init_4 : decode cX5_init 4 = .ok (.aload_n 0, 1) := dd_all DX5_init_0_ok 2 rfl
theorem dX5_init_5 : decode cX5_init 5 = .ok (.sipush 200, 3) := dd_all DX5_init_0_ok 3 rfl
theorem dX5_init_8 : decode cX5_init 8 = .ok (.newarray .int, 2) := dd_all DX5_init_0_ok 4 rfl
theorem dX5_init_10 : decode cX5_init 10 = .ok (.putfield 9, 3) := dd_all DX5_init_0_ok 5 rfl
theorem dX5_init_13 : decode cX5_init 13 = .ok (.aload_n 0, 1) := dd_all DX5_init_0_ok 6 rfl
theorem dX5_init_14 : decode cX5_init 14 = .ok (.sipush 200, 3) := dd_all DX5_init_0_ok 7 rfl
theorem dX5_init_17 : decode cX5_init 17 = .ok (.newarray .int, 2) := dd_all DX5_init_0_ok 8 rfl
theorem dX5_init_19 : decode cX5_init 19 = .ok (.putfield 15, 3) := dd_all DX5_init_0_ok 9 rfl
theorem dX5_init_22 : decode cX5_init 22 = .ok (.aload_n 0, 1) := dd_all DX5_init_0_ok 10 rfl
theorem dX5_init_23 : decode cX5_init 23 = .ok (.sipush 200, 3) := dd_all DX5_init_0_ok 11 rfl
theorem dX5_init_26 : decode cX5_init 26 = .ok (.newarray .int, 2) := dd_all DX5_init_0_ok 12 rfl
theorem dX5_init_28 : decode cX5_init 28 = .ok (.putfield 18, 3) := dd_all DX5_init_0_ok 13 rfl
theorem dX5_init_31 : decode cX5_init 31 = .ok (.aload_n 0, 1) := dd_all DX5_init_0_ok 14 rfl
theorem dX5_init_32 : decode cX5_init 32 = .ok (.sipush 200, 3) := dd_all DX5_init_0_ok 15 rfl
theorem dX5_init_35 : decode cX5_init 35 = .ok (.newarray .int, 2) := dd_all DX5_init_0_ok 16 rfl
theorem dX5_init_37 : decode cX5_init 37 = .ok (.putfield 21, 3) := dd_all DX5_init_0_ok 17 rfl
theorem dX5_init_40 : decode cX5_init 40 = .ok (.aload_n 0, 1) := dd_all DX5_init_0_ok 18 rfl
theorem dX5_init_41 : decode cX5_init 41 = .ok (.sipush 200, 3) := dd_all DX5_init_0_ok 19 rfl
theorem dX5_init_44 : decode cX5_init 44 = .ok (.newarray .int, 2) := dd_all DX5_init_0_ok 20 rfl
theorem dX5_init_46 : decode cX5_init 46 = .ok (.putfield 24, 3) := dd_all DX5_init_0_ok 21 rfl
theorem dX5_init_49 : decode cX5_init 49 = .ok (.aload_n 0, 1) := dd_all DX5_init_0_ok 22 rfl
theorem dX5_init_50 : decode cX5_init 50 = .ok (.sipush 200, 3) := dd_all DX5_init_0_ok 23 rfl
theorem dX5_init_53 : decode cX5_init 53 = .ok (.newarray .int, 2) := dd_all DX5_init_0_ok 24 rfl
theorem dX5_init_55 : decode cX5_init 55 = .ok (.putfield 27, 3) := dd_all DX5_init_0_ok 25 rfl
theorem dX5_init_58 : decode cX5_init 58 = .ok (.aload_n 0, 1) := dd_all DX5_init_0_ok 26 rfl
theorem dX5_init_59 : decode cX5_init 59 = .ok (.sipush 200, 3) := dd_all DX5_init_0_ok 27 rfl
theorem dX5_init_62 : decode cX5_init 62 = .ok (.newarray .int, 2) := dd_all DX5_init_0_ok 28 rfl
theorem dX5_init_64 : decode cX5_init 64 = .ok (.putfield 30, 3) := dd_all DX5_init_0_ok 29 rfl
theorem dX5_init_67 : decode cX5_init 67 = .ok (.return_, 1) := dd_all DX5_init_0_ok 30 rfl
def DX5_append_0 : List (Nat × Instr × Nat) := [(0, .aload_n 0, 1), (1, .getfield 33, 3), (4, .istore 4, 2), (6, .aload_n 0, 1), (7, .getfield 9, 3), (10, .iload 4, 2), (12, .iload_n 1, 1), (13, .invokestatic 37, 3), (16, .aload_n 0, 1), (17, .getfield 15, 3), (20, .iload 4, 2), (22, .iload_n 2, 1), (23, .invokestatic 37, 3), (26, .aload_n 0, 1), (27, .getfield 18, 3), (30, .iload 4, 2), (32, .iload_n 3, 1), (33, .invokestatic 37, 3), (36, .aload_n 0, 1), (37, .getfield 21, 3), (40, .iload 4, 2), (42, .iconst 0, 1), (43, .invokestatic 37, 3), (46, .aload_n 0, 1), (47, .getfield 24, 3), (50, .iload 4, 2), (52, .iconst 0, 1), (53, .invokestatic 37, 3), (56, .aload_n 0, 1), (57, .getfield 27, 3), (60, .iload 4, 2), (62, .iconst 0, 1), (63, .invokestatic 37, 3), (66, .aload_n 0, 1), (67, .getfield 30, 3), (70, .iload 4, 2), (72, .iconst 0, 1), (73, .invokestatic 37, 3), (76, .aload_n 0, 1), (77, .dup, 1)]
theorem DX5_append_0_ok : ∀ q ∈ DX5_append_0, decode cX5_append q.1 = .ok (q.2.1, q.2.2) := by decide +kernel
theorem dX5_append_0 : decode cX5_append 0 = .ok (.aload_n 0, 1) := dd_all DX5_append_0_ok 0 rfl
theorem dX5_append_1 : decode cX5_append 1 = .ok (.getfield 33, 3) := dd_all DX5_append_0_ok 1 rfl
theorem dX5_append_4 : decode cX5_append 4 = .ok (.istore 4, 2) := dd_all DX5_append_0_ok 2 rfl
theorem dX5_append_6 : decode cX5_append 6 = .ok (.aload_n 0, 1) := dd_all DX5_append_0_ok 3 rfl
theorem dX5_append_7 : decode cX5_append 7 = .ok (.getfield 9, 3) := dd_all DX5_append_0_ok 4 rfl
theorem dX5_append_10 : decode cX5_append 10 = .ok (.iload 4, 2) := dd_all DX5_append_0_ok 5 rfl
theorem dX5_append_12 : decode cX5_append 12 = .ok (.iload_n 1, 1) := dd_all DX5_append_0_ok 6 rfl
theorem dX5_append_13 : decode cX5_append 13 = .ok (.invokestatic 37, 3) := dd_all DX5_append_0_ok 7 rfl
theorem dX5_append_16 : decode cX5_append 16 = .ok (.aload_n 0, 1) := dd_all DX5_append_0_ok 8 rfl
theorem dX5_append_17 : decode cX5_append 17 = .ok (.getfield 15, 3) := dd_all DX5_append_0_ok 9 rfl
theorem dX5_append_20 : decode cX5_append 20 = .ok (.iload 4, 2) := dd_all DX5_append_0_ok 10 rfl
theorem dX5_append_22 : decode cX5_append 22 = .ok (.iload_n 2, 1) := dd_all DX5_append_0_ok 11 rfl
theorem dX5_append_23 : decode cX5_append 23 = .ok (.invokestatic 37, 3) := dd_all DX5_append_0_ok 12 rfl
theorem dX5_append_26 : decode cX5_append 26 = .ok (.aload_n 0, 1) := dd_all DX5_append_0_ok 13 rfl
theorem dX5_append_27 : decode cX5_append 27 = .ok (.getfield 18, 3) := dd_all DX5_append_0_ok 14 rfl
theorem dX5_append_30 : decode cX5_append 30 = .ok (.iload 4, 2) := dd_all DX5_append_0_ok 15 rfl
theorem dX5_append_32 : decode cX5_append 32 = .ok (.iload_n 3, 1) := dd_all DX5_append_0_ok 16 rfl
theorem dX5_append_33 : decode cX5_append 33 = .ok (.invokestatic 37, 3) := dd_all DX5_append_0_ok 17 rfl
theorem dX5_append_36 : decode cX5_append 36 = .ok (.aload_n 0, 1) := dd_all DX5_append_0_ok 18 rfl
theorem dX5_append_37 : decode cX5_append 37 = .ok (.getfield 21, 3) := dd_all DX5_append_0_ok 19 rfl
theorem dX5_append_40 : decode cX5_append 40 = .ok (.iload 4, 2) := dd_all DX5_append_0_ok 20 rfl
theorem dX5_append_42 : decode cX5_append 42 = .ok (.iconst 0, 1) := dd_all DX5_append_0_ok 21 rfl
theorem dX5_append_43 : decode cX5_append 43 = .ok (.invokestatic 37, 3) := dd_all DX5_append_0_ok 22 rfl
theorem dX5_append_46 : decode cX5_append 46 = .ok (.aload_n 0, 1) := dd_all DX5_append_0_ok 23 rfl
theorem dX5_append_47 : decode cX5_append 47 = .ok (.getfield 24, 3) := dd_all DX5_append_0_ok 24 rfl
theorem dX5_append_50 : decode cX5_append 50 = .ok (.iload 4, 2) := dd_all DX5_append_0_ok 25 rfl
theorem dX5_append_52 : decode cX5_append 52 = .ok (.iconst 0, 1) := dd_all DX5_append_0_ok 26 rfl
theorem dX5_append_53 : decode cX5_append 53 = .ok (.invokestatic 37, 3) := dd_all DX5_append_0_ok 27 rfl
theorem dX5_append_56 : decode cX5_append 56 = .ok (.aload_n 0, 1) := dd_all DX5_append_0_ok 28 rfl
theorem dX5_append_57 : decode cX5_append 57 = .ok (.getfield 27, 3) := dd_all DX5_append_0_ok 29 rfl
theorem dX5_append_60 : decode cX5_append 60 = .ok (.iload 4, 2) := dd_all DX5_append_0_ok 30 rfl
theorem dX5_append_62 : decode cX5_append 62 = .ok (.iconst 0, 1) := dd_all DX5_append_0_ok 31 rfl
theorem dX5_append_63 : decode cX5_append 63 = .ok (.invokestatic 37, 3) := dd_all DX5_append_0_ok 32 rfl
theorem dX5_append_66 : decode cX5_append 66 = .ok (.aload_n 0, 1) := dd_all DX5_append_0_ok 33 rfl
theorem dX5_append_67 : decode cX5_append 67 = .ok (.getfield 30, 3) := dd_all DX5_append_0_ok 34 rfl
theorem dX5_append_70 : decode cX5_append 70 = .ok (.iload 4, 2) := dd_all DX5_append_0_ok 35 rfl
theorem dX5_append_72 : decode cX5_append 72 = .ok (.iconst 0, 1) := dd_all DX5_append_0_ok 36 rfl
theorem dX5_append_73 : decode cX5_append 73 = .ok (.invokestatic 37, 3) := dd_all DX5_append_0_ok 37 rfl
theorem dX5_append_76 : decode cX5_append 76 = .ok (.aload_n 0, 1) := dd_all DX5_append_0_ok 38 rfl
theorem dX5_append_77 : decode cX5_append 77 = .ok (.dup, 1) := dd_all DX5_append_0_ok 39 rfl
def DX5_append_40 : List (Nat × Instr × Nat) := [(78, .getfield 33, 3), (81, .iconst 1, 1), (82, .iadd, 1), (83, .putfield 33, 3), (86, .iload 4, 2), (88, .ireturn, 1)]
theorem DX5_append_40_ok : ∀ q ∈ DX5_append_40, decode cX5_append q.1 = .ok (q.2.1, q.2.2) := by decide +kernel
theorem dX5_append_78 : decode cX5_append 78 = .ok (.getfield 33, 3) := dd_all DX5_append_40_ok 0 rfl
theorem dX5_append_81 : decode cX5_append 81 = .ok (.iconst 1, 1) := dd_all DX5_append_40_ok 1 rfl
theorem dX5_append_82 : decode cX5_append 82 = .ok (.iadd, 1) := dd_all DX5_append_40_ok 2 rfl
theorem dX5_append_83 : decode cX5_append 83 = .ok (.putfield 33, 3) := dd_all DX5_append_40_ok 3 rfl
theorem dX5_append_86 : decode cX5_append 86 = .ok (.iload 4, 2) := dd_all DX5_append_40_ok 4 rfl
theorem dX5_append_88 : decode cX5_append 88 = .ok (.ireturn, 1) := dd_all DX5_append_40_ok 5 rfl
def DX5_sings_0 : List (Nat × Instr × Nat) := [(0, .aload_n 0, 1), (1, .getfield 21, 3), (4, .iload_n 1, 1), (5, .invokestatic 41, 3), (8, .istore_n 2, 1), (9, .iload_n 2, 1), (10, .ifCond .eq 13, 3), (13, .iload_n 2, 1), (14, .bipush 6, 2), (16, .if_icmp .eq 7, 3), (19, .iconst 1, 1), (20, .goto 4, 3), (23, .iconst 0, 1), (24, .ireturn, 1)]
theorem DX5_sings_0_ok : ∀ q ∈ DX5_sings_0, decode cX5_sings q.1 = .ok (q.2.1, q.2.2) := by decide +kernel
theorem dX5_sings_0 : decode cX5_sings 0 = .ok (.aload_n 0, 1) := dd_all DX5_sings_0_ok 0 rfl
theorem dX5_sings_1 : decode cX5_sings 1 = .ok (.getfield 21, 3) := dd_all DX5_sings_0_ok 1 rfl
theorem dX5_sings_4 : decode cX5_sings 4 = .ok (.iload_n 1, 1) := dd_all DX5_sings_0_ok 2 rfl
theorem dX5_sings_5 : decode cX5_sings 5 = .ok (.invokestatic 41, 3) := dd_all DX5_sings_0_ok 3 rfl
theorem dX5_sings_8 : decode cX5_sings 8 = .ok (.istore_n 2, 1) := dd_all DX5_sings_0_ok 4 rfl
theorem dX5_sings_9 : decode cX5_sings 9 = .ok (.iload_n 2, 1) := dd_all DX5_sings_0_ok 5 rfl
theorem dX5_sings_10 : decode cX5_sings 10 = .ok (.ifCond .eq 13, 3) := dd_all DX5_sings_0_ok 6 rfl
theorem dX5_sings_13 : decode cX5_sings 13 = .ok (.iload_n 2, 1) := dd_all DX5_sings_0_ok 7 rfl
theorem dX5_sings_14 : decode cX5_sings 14 = .ok (.bipush 6, 2) := dd_all DX5_sings_0_ok 8 rfl
theorem dX5_sings_16 : decode cX5_sings 16 = .ok (.if_icmp .eq 7, 3) := dd_all DX5_sings_0_ok 9 rfl
theorem dX5_sings_19 : decode cX5_sings 19 = .ok (.iconst 1, 1) := dd_all DX5_sings_0_ok 10 rfl
theorem dX5_sings_20 : decode cX5_sings 20 = .ok (.goto 4, 3) := dd_all DX5_sings_0_ok 11 rfl
theorem dX5_sings_23 : decode cX5_sings 23 = .ok (.iconst 0, 1) := dd_all DX5_sings_0_ok 12 rfl
theorem dX5_sings_24 : decode cX5_sings 24 = .ok (.ireturn, 1) := dd_all DX5_sings_0_ok 13 rfl
def DX5_is_0 : List (Nat × Instr × Nat) := [(0, .aload_n 0, 1), (1, .getfield 9, 3), (4, .iload_n 1, 1), (5, .invokestatic 41, 3), (8, .iload_n 2, 1), (9, .if_icmp .ne 19, 3), (12, .aload_n 0, 1), (13, .getfield 15, 3), (16, .iload_n 1, 1), (17, .invokestatic 41, 3), (20, .iload_n 3, 1), (21, .if_icmp .ne 7, 3), (24, .iconst 1, 1), (25, .goto 4, 3), (28, .iconst 0, 1), (29, .ireturn, 1)]
theorem DX5_is_0_ok : ∀ q ∈ DX5_is_0, decode cX5_is q.1 = .ok (q.2.1, q.2.2) := by decide +kernel
theorem dX5_is_0 : decode cX5_is 0 = .ok (.aload_n 0, 1) := dd_all DX5_is_0_ok 0 rfl
theorem dX5_is_1 : decode cX5_is 1 = .ok (.getfield 9, 3) := dd_all DX5_is_0_ok 1 rfl
theorem dX5_is_4 : decode cX5_is 4 = .ok (.iload_n 1, 1) := dd_all DX5_is_0_ok 2 rfl
theorem dX5_is_5 : decode cX5_is 5 = .ok (.invokestatic 41, 3) := dd_all DX5_is_0_ok 3 rfl
theorem dX5_is_8 : decode cX5_is 8 = .ok (.iload_n 2, 1) := dd_all DX5_is_0_ok 4 rfl
theorem dX5_is_9 : decode cX5_is 9 = .ok (.if_icmp .ne 19, 3) := dd_all DX5_is_0_ok 5 rfl
theorem dX5_is_12 : decode cX5_is 12 = .ok (.aload_n 0, 1) := dd_all DX5_is_0_ok 6 rfl
theorem dX5_is_13 : decode cX5_is 13 = .ok (.getfield 15, 3) := dd_all DX5_is_0_ok 7 rfl
theorem dX5_is_16 : decode cX5_is 16 = .ok (.iload_n 1, 1) := dd_all DX5_is_0_ok 8 rfl
theorem dX5_is_17 : decode cX5_is 17 = .ok (.invokestatic 41, 3) := dd_all DX5_is_0_ok 9 rfl
theorem dX5_is_20 : decode cX5_is 20 = .ok (.iload_n 3, 1) := dd_all DX5_is_0_ok 10 rfl
theorem dX5_is_21 : decode cX5_is 21 = .ok (.if_icmp .ne 7, 3) := dd_all DX5_is_0_ok 11 rfl
theorem dX5_is_24 : decode cX5_is 24 = .ok (.iconst 1, 1) := dd_all DX5_is_0_ok 12 rfl
theorem dX5_is_25 : decode cX5_is 25 = .ok (.goto 4, 3) := dd_all DX5_is_0_ok 13 rfl
theorem dX5_is_28 : decode cX5_is 28 = .ok (.iconst 0, 1) := dd_all DX5_is_0_ok 14 rfl
theorem dX5_is_29 : decode cX5_is 29 = .ok (.ireturn, 1) := dd_all DX5_is_0_ok 15 rfl
def DX5_top_0 : List (Nat × Instr × Nat) := [(0, .bipush 8, 2), (2, .aload_n 0, 1), (3, .getfield 18, 3), (6, .iload_n 1, 1), (7, .invokestatic 41, 3), (10, .imul, 1), (11, .ireturn, 1)]
theorem DX5_top_0_ok : ∀ q ∈ DX5_top_0, decode cX5_top q.1 = .ok (q.2.1, q.2.2) := by decide +kernel
theorem dX5_top_0 : decode cX5_top 0 = .ok (.bipush 8, 2) := dd_all DX5_top_0_ok 0 rfl
theorem dX5_top_2 : decode cX5_top 2 = .ok (.aload_n 0, 1) := dd_all DX5_top_0_ok 1 rfl
theorem dX5_top_3 : decode cX5_top 3 = .ok (.getfield 18, 3) := dd_all DX5_top_0_ok 2 rfl
theorem dX5_top_6 : decode cX5_top 6 = .ok (.iload_n 1, 1) := dd_all DX5_top_0_ok 3 rfl
theorem dX5_top_7 : decode cX5_top 7 = .ok (.invokestatic 41, 3) := dd_all DX5_top_0_ok 4 rfl
theorem dX5_top_10 : decode cX5_top 10 = .ok (.imul, 1) := dd_all DX5_top_0_ok 5 rfl
theorem dX5_top_11 : decode cX5_top 11 = .ok (.ireturn, 1) := dd_all DX5_top_0_ok 6 rfl
def DX5_rest_0 : List (Nat × Instr × Nat) := [(0, .iload_n 2, 1), (1, .getstatic 45, 3), (4, .aload_n 0, 1), (5, .getfield 9, 3), (8, .iload_n 1, 1), (9, .invokestatic 41, 3), (12, .invokestatic 41, 3), (15, .imul, 1), (16, .sipush 1000, 3), (19, .idiv, 1), (20, .ireturn, 1)]
theorem DX5_rest_0_ok : ∀ q ∈ DX5_rest_0, decode cX5_rest q.1 = .ok (q.2.1, q.2.2) := by decide +kernel
theorem dX5_rest_0 : decode cX5_rest 0 = .ok (.iload_n 2, 1) := dd_all DX5_rest_0_ok 0 rfl
theorem dX5_rest_1 : decode cX5_rest 1 = .ok (.getstatic 45, 3) := dd_all DX5_rest_0_ok 1 rfl
theorem dX5_rest_4 : decode cX5_rest 4 = .ok (.aload_n 0, 1) := dd_all DX5_rest_0_ok 2 rfl
theorem dX5_rest_5 : decode cX5_rest 5 = .ok (.getfield 9, 3) := dd_all DX5_rest_0_ok 3 rfl
theorem dX5_rest_8 : decode cX5_rest 8 = .ok (.iload_n 1, 1) := dd_all DX5_rest_0_ok 4 rfl
theorem dX5_rest_9 : decode cX5_rest 9 = .ok (.invokestatic 41, 3) := dd_all DX5_rest_0_ok 5 rfl
theorem dX5_rest_12 : decode cX5_rest 12 = .ok (.invokestatic 41, 3) := dd_all DX5_rest_0_ok 6 rfl
theorem dX5_rest_15 : decode cX5_rest 15 = .ok (.imul, 1) := dd_all DX5_rest_0_ok 7 rfl
theorem dX5_rest_16 : decode cX5_rest 16 = .ok (.sipush 1000, 3) := dd_all DX5_rest_0_ok 8 rfl
theorem dX5_rest_19 : decode cX5_rest 19 = .ok (.idiv, 1) := dd_all DX5_rest_0_ok 9 rfl
theorem dX5_rest_20 : decode cX5_rest 20 = .ok (.ireturn, 1) := dd_all DX5_rest_0_ok 10 rfl
def DX5_startOver_0 : List (Nat × Instr × Nat) := [(0, .aload_n 0, 1), (1, .getfield 18, 3), (4, .iload_n 1, 1), (5, .iload_n 2, 1), (6, .invokestatic 37, 3), (9, .aload_n 0, 1), (10, .getfield 30, 3), (13, .iload_n 1, 1), (14, .iconst 0, 1), (15, .invokestatic 37, 3), (18, .aload_n 0, 1), (19, .getfield 21, 3), (22, .iload_n 1, 1), (23, .aload_n 0, 1), (24, .getfield 24, 3), (27, .iload_n 1, 1), (28, .invokestatic 41, 3), (31, .aload_n 0, 1), (32, .iload_n 1, 1), (33, .invokevirtual 48, 3), (36, .if_icmp .lt 7, 3), (39, .iconst 2, 1), (40, .goto 4, 3), (43, .iconst 1, 1), (44, .invokestatic 37, 3), (47, .return_, 1)]
theorem DX5_startOver_0_ok : ∀ q ∈ DX5_startOver_0, decode cX5_startOver q.1 = .ok (q.2.1, q.2.2) := by decide +kernel
theorem dX5_startOver_0 : decode cX5_startOver 0 = .ok (.aload_n 0, 1) := dd_all DX5_startOver_0_ok 0 rfl
theorem dX5_startOver_1 : decode cX5_startOver 1 = .ok (.getfield 18, 3) := dd_all DX5_startOver_0_ok 1 rfl
theorem dX5_startOver_4 : decode cX5_startOver 4 = .ok (.iload_n 1, 1) := dd_all DX5_startOver_0_ok 2 rfl
theorem dX5_startOver_5 : decode cX5_startOver 5 = .ok (.iload_n 2, 1) := dd_all DX5_startOver_0_ok 3 rfl
theorem dX5_startOver_6 : decode cX5_startOver 6 = .ok (.invokestatic 37, 3) := dd_all DX5_startOver_0_ok 4 rfl
theorem dX5_startOver_9 : decode cX5_startOver 9 = .ok (.aload_n 0, 1) := dd_all DX5_startOver_0_ok 5 rfl
theorem dX5_startOver_10 : decode cX5_startOver 10 = .ok (.getfield 30, 3) := dd_all DX5_startOver_0_ok 6 rfl
theorem dX5_startOver_13 : decode cX5_startOver 13 = .ok (.iload_n 1, 1) := dd_all DX5_startOver_0_ok 7 rfl
theorem dX5_startOver_14 : decode cX5_startOver 14 = .ok (.iconst 0, 1) := dd_all DX5_startOver_0_ok 8 rfl
theorem dX5_startOver_15 : decode cX5_startOver 15 = .ok (.invokestatic 37, 3) := dd_all DX5_startOver_0_ok 9 rfl
theorem dX5_startOver_18 : decode cX5_startOver 18 = .ok (.aload_n 0, 1) := dd_all DX5_startOver_0_ok 10 rfl
theorem dX5_startOver_19 : decode cX5_startOver 19 = .ok (.getfield 21, 3) := dd_all DX5_startOver_0_ok 11 rfl
theorem dX5_startOver_22 : decode cX5_startOver 22 = .ok (.iload_n 1, 1) := dd_all DX5_startOver_0_ok 12 rfl
theorem dX5_startOver_23 : decode cX5_startOver 23 = .ok (.aload_n 0, 1) := dd_all DX5_startOver_0_ok 13 rfl
theorem dX5_startOver_24 : decode cX5_startOver 24 = .ok (.getfield 24, 3) := dd_all DX5_startOver_0_ok 14 rfl
theorem dX5_startOver_27 : decode cX5_startOver 27 = .ok (.iload_n 1, 1) := dd_all DX5_startOver_0_ok 15 rfl
theorem dX5_startOver_28 : decode cX5_startOver 28 = .ok (.invokestatic 41, 3) := dd_all DX5_startOver_0_ok 16 rfl
theorem dX5_startOver_31 : decode cX5_startOver 31 = .ok (.aload_n 0, 1) := dd_all DX5_startOver_0_ok 17 rfl
theorem dX5_startOver_32 : decode cX5_startOver 32 = .ok (.iload_n 1, 1) := dd_all DX5_startOver_0_ok 18 rfl
theorem dX5_startOver_33 : decode cX5_startOver 33 = .ok (.invokevirtual 48, 3) := dd_all DX5_startOver_0_ok 19 rfl
theorem dX5_startOver_36 : decode cX5_startOver 36 = .ok (.if_icmp .lt 7, 3) := dd_all DX5_startOver_0_ok 20 rfl
theorem dX5_startOver_39 : decode cX5_startOver 39 = .ok (.iconst 2, 1) := dd_all DX5_startOver_0_ok 21 rfl
theorem dX5_startOver_40 : decode cX5_startOver 40 = .ok (.goto 4, 3) := dd_all DX5_startOver_0_ok 22 rfl
theorem dX5_startOver_43 : decode cX5_startOver 43 = .ok (.iconst 1, 1) := dd_all DX5_startOver_0_ok 23 rfl
theorem dX5_startOver_44 : decode cX5_startOver 44 = .ok (.invokestatic 37, 3) := dd_all DX5_startOver_0_ok 24 rfl
theorem dX5_startOver_47 : decode cX5_startOver 47 = .ok (.return_, 1) := dd_all DX5_startOver_0_ok 25 rfl
def DX5_startDown_0 : List (Nat × Instr × Nat) := [(0, .aload_n 0, 1), (1, .getfield 21, 3), (4, .iload_n 1, 1), (5, .iload_n 2, 1), (6, .invokestatic 37, 3), (9, .aload_n 0, 1), (10, .getfield 27, 3), (13, .iload_n 1, 1), (14, .aload_n 0, 1), (15, .getfield 24, 3), (18, .iload_n 1, 1), (19, .invokestatic 41, 3), (22, .invokestatic 37, 3), (25, .aload_n 0, 1), (26, .getfield 30, 3), (29, .iload_n 1, 1), (30, .iconst 0, 1), (31, .invokestatic 37, 3), (34, .return_, 1)]
theorem DX5_startDown_0_ok : ∀ q ∈ DX5_startDown_0, decode cX5_startDown q.1 = .ok (q.2.1, q.2.2) := by decide +kernel
theorem dX5_startDown_0 : decode cX5_startDown 0 = .ok (.aload_n 0, 1) := dd_all DX5_startDown_0_ok 0 rfl
theorem dX5_startDown_1 : decode cX5_startDown 1 = .ok (.getfield 21, 3) := dd_all DX5_startDown_0_ok 1 rfl
theorem dX5_startDown_4 : decode cX5_startDown 4 = .ok (.iload_n 1, 1) := dd_all DX5_startDown_0_ok 2 rfl
theorem dX5_startDown_5 : decode cX5_startDown 5 = .ok (.iload_n 2, 1) := dd_all DX5_startDown_0_ok 3 rfl
theorem dX5_startDown_6 : decode cX5_startDown 6 = .ok (.invokestatic 37, 3) := dd_all DX5_startDown_0_ok 4 rfl
theorem dX5_startDown_9 : decode cX5_startDown 9 = .ok (.aload_n 0, 1) := dd_all DX5_startDown_0_ok 5 rfl
theorem dX5_startDown_10 : decode cX5_startDown 10 = .ok (.getfield 27, 3) := dd_all DX5_startDown_0_ok 6 rfl
theorem dX5_startDown_13 : decode cX5_startDown 13 = .ok (.iload_n 1, 1) := dd_all DX5_startDown_0_ok 7 rfl
theorem dX5_startDown_14 : decode cX5_startDown 14 = .ok (.aload_n 0, 1) := dd_all DX5_startDown_0_ok 8 rfl
theorem dX5_startDown_15 : decode cX5_startDown 15 = .ok (.getfield 24, 3) := dd_all DX5_startDown_0_ok 9 rfl
theorem dX5_startDown_18 : decode cX5_startDown 18 = .ok (.iload_n 1, 1) := dd_all DX5_startDown_0_ok 10 rfl
theorem dX5_startDown_19 : decode cX5_startDown 19 = .ok (.invokestatic 41, 3) := dd_all DX5_startDown_0_ok 11 rfl
theorem dX5_startDown_22 : decode cX5_startDown 22 = .ok (.invokestatic 37, 3) := dd_all DX5_startDown_0_ok 12 rfl
theorem dX5_startDown_25 : decode cX5_startDown 25 = .ok (.aload_n 0, 1) := dd_all DX5_startDown_0_ok 13 rfl
theorem dX5_startDown_26 : decode cX5_startDown 26 = .ok (.getfield 30, 3) := dd_all DX5_startDown_0_ok 14 rfl
theorem dX5_startDown_29 : decode cX5_startDown 29 = .ok (.iload_n 1, 1) := dd_all DX5_startDown_0_ok 15 rfl
theorem dX5_startDown_30 : decode cX5_startDown 30 = .ok (.iconst 0, 1) := dd_all DX5_startDown_0_ok 16 rfl
theorem dX5_startDown_31 : decode cX5_startDown 31 = .ok (.invokestatic 37, 3) := dd_all DX5_startDown_0_ok 17 rfl
theorem dX5_startDown_34 : decode cX5_startDown 34 = .ok (.return_, 1) := dd_all DX5_startDown_0_ok 18 rfl
def DX5_end_0 : List (Nat × Instr × Nat) := [(0, .aload_n 0, 1), (1, .getfield 21, 3), (4, .iload_n 1, 1), (5, .bipush 6, 2), (7, .invokestatic 37, 3), (10, .return_, 1)]
theorem DX5_end_0_ok : ∀ q ∈ DX5_end_0, decode cX5_end q.1 = .ok (q.2.1, q.2.2) := by decide +kernel
theorem dX5_end_0 : decode cX5_end 0 = .ok (.aload_n 0, 1) := dd_all DX5_end_0_ok 0 rfl
theorem dX5_end_1 : decode cX5_end 1 = .ok (.getfield 21, 3) := dd_all DX5_end_0_ok 1 rfl
theorem dX5_end_4 : decode cX5_end 4 = .ok (.iload_n 1, 1) := dd_all DX5_end_0_ok 2 rfl
theorem dX5_end_5 : decode cX5_end 5 = .ok (.bipush 6, 2) := dd_all DX5_end_0_ok 3 rfl
theorem dX5_end_7 : decode cX5_end 7 = .ok (.invokestatic 37, 3) := dd_all DX5_end_0_ok 4 rfl
theorem dX5_end_10 : decode cX5_end 10 = .ok (.return_, 1) := dd_all DX5_end_0_ok 5 rfl
def DX5_move_0 : List (Nat × Instr × Nat) := [(0, .aload_n 0, 1), (1, .getfield 21, 3), (4, .iload_n 1, 1), (5, .invokestatic 41, 3), (8, .tableswitch 83 1 5 #[36, 44, 83, 52, 74], 36), (44, .aload_n 0, 1), (45, .iload_n 1, 1), (46, .invokevirtual 52, 3), (49, .goto 42, 3), (52, .aload_n 0, 1), (53, .iload_n 1, 1), (54, .invokevirtual 56, 3), (57, .goto 34, 3), (60, .aload_n 0, 1), (61, .iload_n 1, 1), (62, .getstatic 59, 3), (65, .aload_n 0, 1), (66, .getfield 9, 3), (69, .iload_n 1, 1), (70, .invokestatic 41, 3), (73, .invokestatic 41, 3), (76, .invokevirtual 62, 3), (79, .goto 12, 3), (82, .aload_n 0, 1), (83, .iload_n 1, 1), (84, .iconst 3, 1), (85, .invokevirtual 62, 3), (88, .goto 3, 3), (91, .return_, 1)]
theorem DX5_move_0_ok : ∀ q ∈ DX5_move_0, decode cX5_move q.1 = .ok (q.2.1, q.2.2) := by decide +kernel
theorem dX5_move_0 : decode cX5_move 0 = .ok (.aload_n 0, 1) := dd_all DX5_move_0_ok 0 rfl
theorem dX5_move_1 : decode cX5_move 1 = .ok (.getfield 21, 3) := dd_all DX5_move_0_ok 1 rfl
theorem dX5_move_4 : decode cX5_move 4 = .ok (.iload_n 1, 1) := dd_all DX5_move_0_ok 2 rfl
theorem dX5_move_5 : decode cX5_move 5 = .ok (.invokestatic 41, 3) := dd_all DX5_move_0_ok 3 rfl
theorem dX5_move_8 : decode cX5_move 8 = .ok (.tableswitch 83 1 5 #[36, 44, 83, 52, 74], 36) := dd_all DX5_move_0_ok 4 rfl
theorem dX5_move_44 : decode cX5_move 44 = .ok (.aload_n 0, 1) := dd_all DX5_move_0_ok 5 rfl
theorem dX5_move_45 : decode cX5_move 45 = .ok (.iload_n 1, 1) := dd_all DX5_move_0_ok 6 rfl
theorem dX5_move_46 : decode cX5_move 46 = .ok (.invokevirtual 52, 3) := dd_all DX5_move_0_ok 7 rfl
theorem dX5_move_49 : decode cX5_move 49 = .ok (.goto 42, 3) := dd_all DX5_move_0_ok 8 rfl
theorem dX5_move_52 : decode cX5_move 52 = .ok (.aload_n 0, 1) := dd_all DX5_move_0_ok 9 rfl
theorem dX5_move_53 : decode cX5_move 53 = .ok (.iload_n 1, 1) := dd_all DX5_move_0_ok 10 rfl
theorem dX5_move_54 : decode cX5_move 54 = .ok (.invokevirtual 56, 3) := dd_all DX5_move_0_ok 11 rfl
theorem dX5_move_57 : decode cX5_move 57 = .ok (.goto 34, 3) := dd_all DX5_move_0_ok 12 rfl
theorem dX5_move_60 : decode cX5_move 60 = .ok (.aload_n 0, 1) := dd_all DX5_move_0_ok 13 rfl
theorem dX5_move_61 : decode cX5_move 61 = .ok (.iload_n 1, 1) := dd_all DX5_move_0_ok 14 rfl
theorem dX5_move_62 : decode cX5_move 62 = .ok (.getstatic 59, 3) := dd_all DX5_move_0_ok 15 rfl
theorem dX5_move_65 : decode cX5_move 65 = .ok (.aload_n 0, 1) := dd_all DX5_move_0_ok 16 rfl
theorem dX5_move_66 : decode cX5_move 66 = .ok (.getfield 9, 3) := dd_all DX5_move_0_ok 17 rfl
theorem dX5_move_69 : decode cX5_move 69 = .ok (.iload_n 1, 1) := dd_all DX5_move_0_ok 18 rfl
theorem dX5_move_70 : decode cX5_move 70 = .ok (.invokestatic 41, 3) := dd_all DX5_move_0_ok 19 rfl
theorem dX5_move_73 : decode cX5_move 73 = .ok (.invokestatic 41, 3) := dd_all DX5_move_0_ok 20 rfl
theorem dX5_move_76 : decode cX5_move 76 = .ok (.invokevirtual 62, 3) := dd_all DX5_move_0_ok 21 rfl
theorem dX5_move_79 : decode cX5_move 79 = .ok (.goto 12, 3) := dd_all DX5_move_0_ok 22 rfl
theorem dX5_move_82 : decode cX5_move 82 = .ok (.aload_n 0, 1) := dd_all DX5_move_0_ok 23 rfl
theorem dX5_move_83 : decode cX5_move 83 = .ok (.iload_n 1, 1) := dd_all DX5_move_0_ok 24 rfl
theorem dX5_move_84 : decode cX5_move 84 = .ok (.iconst 3, 1) := dd_all DX5_move_0_ok 25 rfl
theorem dX5_move_85 : decode cX5_move 85 = .ok (.invokevirtual 62, 3) := dd_all DX5_move_0_ok 26 rfl
theorem dX5_move_88 : decode cX5_move 88 = .ok (.goto 3, 3) := dd_all DX5_move_0_ok 27 rfl
theorem dX5_move_91 : decode cX5_move 91 = .ok (.return_, 1) := dd_all DX5_move_0_ok 28 rfl
def DX5_rise_0 : List (Nat × Instr × Nat) := [(0, .aload_n 0, 1), (1, .iload_n 1, 1), (2, .invokevirtual 48, 3), (5, .istore_n 2, 1), (6, .iload_n 2, 1), (7, .aload_n 0, 1), (8, .getfield 24, 3), (11, .iload_n 1, 1), (12, .invokestatic 41, 3), (15, .iload_n 2, 1), (16, .getstatic 66, 3), (19, .aload_n 0, 1), (20, .getfield 9, 3), (23, .iload_n 1, 1), (24, .invokestatic 41, 3), (27, .invokestatic 41, 3), (30, .invokestatic 69, 3), (33, .iadd, 1), (34, .invokestatic 73, 3), (37, .istore_n 3, 1), (38, .aload_n 0, 1), (39, .getfield 24, 3), (42, .iload_n 1, 1), (43, .iload_n 3, 1), (44, .invokestatic 37, 3), (47, .iload_n 3, 1), (48, .iload_n 2, 1), (49, .if_icmp .ne 12, 3), (52, .aload_n 0, 1), (53, .getfield 21, 3), (56, .iload_n 1, 1), (57, .iconst 2, 1), (58, .invokestatic 37, 3), (61, .return_, 1)]
theorem DX5_rise_0_ok : ∀ q ∈ DX5_rise_0, decode cX5_rise q.1 = .ok (q.2.1, q.2.2) := by decide +kernel
theorem dX5_rise_0 : decode cX5_rise 0 = .ok (.aload_n 0, 1) := dd_all DX5_rise_0_ok 0 rfl
theorem dX5_rise_1 : decode cX5_rise 1 = .ok (.iload_n 1, 1) := dd_all DX5_rise_0_ok 1 rfl
theorem dX5_rise_2 : decode cX5_rise 2 = .ok (.invokevirtual 48, 3) := dd_all DX5_rise_0_ok 2 rfl
theorem dX5_rise_5 : decode cX5_rise 5 = .ok (.istore_n 2, 1) := dd_all DX5_rise_0_ok 3 rfl
theorem dX5_rise_6 : decode cX5_rise 6 = .ok (.iload_n 2, 1) := dd_all DX5_rise_0_ok 4 rfl
theorem dX5_rise_7 : decode cX5_rise 7 = .ok (.aload_n 0, 1) := dd_all DX5_rise_0_ok 5 rfl
theorem dX5_rise_8 : decode cX5_rise 8 = .ok (.getfield 24, 3) := dd_all DX5_rise_0_ok 6 rfl
theorem dX5_rise_11 : decode cX5_rise 11 = .ok (.iload_n 1, 1) := dd_all DX5_rise_0_ok 7 rfl
theorem dX5_rise_12 : decode cX5_rise 12 = .ok (.invokestatic 41, 3) := dd_all DX5_rise_0_ok 8 rfl
theorem dX5_rise_15 : decode cX5_rise 15 = .ok (.iload_n 2, 1) := dd_all DX5_rise_0_ok 9 rfl
theorem dX5_rise_16 : decode cX5_rise 16 = .ok (.getstatic 66, 3) := dd_all DX5_rise_0_ok 10 rfl
theorem dX5_rise_19 : decode cX5_rise 19 = .ok (.aload_n 0, 1) := dd_all DX5_rise_0_ok 11 rfl
theorem dX5_rise_20 : decode cX5_rise 20 = .ok (.getfield 9, 3) := dd_all DX5_rise_0_ok 12 rfl
theorem dX5_rise_23 : decode cX5_rise 23 = .ok (.iload_n 1, 1) := dd_all DX5_rise_0_ok 13 rfl
theorem dX5_rise_24 : decode cX5_rise 24 = .ok (.invokestatic 41, 3) := dd_all DX5_rise_0_ok 14 rfl
theorem dX5_rise_27 : decode cX5_rise 27 = .ok (.invokestatic 41, 3) := dd_all DX5_rise_0_ok 15 rfl
theorem dX5_rise_30 : decode cX5_rise 30 = .ok (.invokestatic 69, 3) := dd_all DX5_rise_0_ok 16 rfl
theorem dX5_rise_33 : decode cX5_rise 33 = .ok (.iadd, 1) := dd_all DX5_rise_0_ok 17 rfl
theorem dX5_rise_34 : decode cX5_rise 34 = .ok (.invokestatic 73, 3) := dd_all DX5_rise_0_ok 18 rfl
theorem dX5_rise_37 : decode cX5_rise 37 = .ok (.istore_n 3, 1) := dd_all DX5_rise_0_ok 19 rfl
theorem dX5_rise_38 : decode cX5_rise 38 = .ok (.aload_n 0, 1) := dd_all DX5_rise_0_ok 20 rfl
theorem dX5_rise_39 : decode cX5_rise 39 = .ok (.getfield 24, 3) := dd_all DX5_rise_0_ok 21 rfl
theorem dX5_rise_42 : decode cX5_rise 42 = .ok (.iload_n 1, 1) := dd_all DX5_rise_0_ok 22 rfl
theorem dX5_rise_43 : decode cX5_rise 43 = .ok (.iload_n 3, 1) := dd_all DX5_rise_0_ok 23 rfl
theorem dX5_rise_44 : decode cX5_rise 44 = .ok (.invokestatic 37, 3) := dd_all DX5_rise_0_ok 24 rfl
theorem dX5_rise_47 : decode cX5_rise 47 = .ok (.iload_n 3, 1) := dd_all DX5_rise_0_ok 25 rfl
theorem dX5_rise_48 : decode cX5_rise 48 = .ok (.iload_n 2, 1) := dd_all DX5_rise_0_ok 26 rfl
theorem dX5_rise_49 : decode cX5_rise 49 = .ok (.if_icmp .ne 12, 3) := dd_all DX5_rise_0_ok 27 rfl
theorem dX5_rise_52 : decode cX5_rise 52 = .ok (.aload_n 0, 1) := dd_all DX5_rise_0_ok 28 rfl
theorem dX5_rise_53 : decode cX5_rise 53 = .ok (.getfield 21, 3) := dd_all DX5_rise_0_ok 29 rfl
theorem dX5_rise_56 : decode cX5_rise 56 = .ok (.iload_n 1, 1) := dd_all DX5_rise_0_ok 30 rfl
theorem dX5_rise_57 : decode cX5_rise 57 = .ok (.iconst 2, 1) := dd_all DX5_rise_0_ok 31 rfl
theorem dX5_rise_58 : decode cX5_rise 58 = .ok (.invokestatic 37, 3) := dd_all DX5_rise_0_ok 32 rfl
theorem dX5_rise_61 : decode cX5_rise 61 = .ok (.return_, 1) := dd_all DX5_rise_0_ok 33 rfl
def DX5_sink_0 : List (Nat × Instr × Nat) := [(0, .aload_n 0, 1), (1, .iload_n 1, 1), (2, .invokevirtual 48, 3), (5, .istore_n 2, 1), (6, .aload_n 0, 1), (7, .iload_n 1, 1), (8, .iload_n 2, 1), (9, .invokevirtual 78, 3), (12, .istore_n 3, 1), (13, .iload_n 3, 1), (14, .aload_n 0, 1), (15, .getfield 24, 3), (18, .iload_n 1, 1), (19, .invokestatic 41, 3), (22, .iload_n 2, 1), (23, .iload_n 3, 1), (24, .isub, 1), (25, .getstatic 81, 3), (28, .aload_n 0, 1), (29, .getfield 9, 3), (32, .iload_n 1, 1), (33, .invokestatic 41, 3), (36, .invokestatic 41, 3), (39, .invokestatic 69, 3), (42, .isub, 1), (43, .invokestatic 84, 3), (46, .istore 4, 2), (48, .aload_n 0, 1), (49, .getfield 24, 3), (52, .iload_n 1, 1), (53, .iload 4, 2), (55, .invokestatic 37, 3), (58, .iload 4, 2), (60, .iload_n 3, 1), (61, .if_icmp .ne 12, 3), (64, .aload_n 0, 1), (65, .getfield 21, 3), (68, .iload_n 1, 1), (69, .iconst 3, 1), (70, .invokestatic 37, 3)]
theorem DX5_sink_0_ok : ∀ q ∈ DX5_sink_0, decode cX5_sink q.1 = .ok (q.2.1, q.2.2) := by decide +kernel
theorem dX5_sink_0 : decode cX5_sink 0 = .ok (.aload_n 0, 1) := dd_all DX5_sink_0_ok 0 rfl
theorem dX5_sink_1 : decode cX5_sink 1 = .ok (.iload_n 1, 1) := dd_all DX5_sink_0_ok 1 rfl
theorem dX5_sink_2 : decode cX5_sink 2 = .ok (.invokevirtual 48, 3) := dd_all DX5_sink_0_ok 2 rfl
theorem dX5_sink_5 : decode cX5_sink 5 = .ok (.istore_n 2, 1) := dd_all DX5_sink_0_ok 3 rfl
theorem dX5_sink_6 : decode cX5_sink 6 = .ok (.aload_n 0, 1) := dd_all DX5_sink_0_ok 4 rfl
theorem dX5_sink_7 : decode cX5_sink 7 = .ok (.iload_n 1, 1) := dd_all DX5_sink_0_ok 5 rfl
theorem dX5_sink_8 : decode cX5_sink 8 = .ok (.iload_n 2, 1) := dd_all DX5_sink_0_ok 6 rfl
theorem dX5_sink_9 : decode cX5_sink 9 = .ok (.invokevirtual 78, 3) := dd_all DX5_sink_0_ok 7 rfl
theorem dX5_sink_12 : decode cX5_sink 12 = .ok (.istore_n 3, 1) := dd_all DX5_sink_0_ok 8 rfl
theorem dX5_sink_13 : decode cX5_sink 13 = .ok (.iload_n 3, 1) := dd_all DX5_sink_0_ok 9 rfl
theorem dX5_sink_14 : decode cX5_sink 14 = .ok (.aload_n 0, 1) := dd_all DX5_sink_0_ok 10 rfl
theorem dX5_sink_15 : decode cX5_sink 15 = .ok (.getfield 24, 3) := dd_all DX5_sink_0_ok 11 rfl
theorem dX5_sink_18 : decode cX5_sink 18 = .ok (.iload_n 1, 1) := dd_all DX5_sink_0_ok 12 rfl
theorem dX5_sink_19 : decode cX5_sink 19 = .ok (.invokestatic 41, 3) := dd_all DX5_sink_0_ok 13 rfl
theorem dX5_sink_22 : decode cX5_sink 22 = .ok (.iload_n 2, 1) := dd_all DX5_sink_0_ok 14 rfl
theorem dX5_sink_23 : decode cX5_sink 23 = .ok (.iload_n 3, 1) := dd_all DX5_sink_0_ok 15 rfl
theorem dX5_sink_24 : decode cX5_sink 24 = .ok (.isub, 1) := dd_all DX5_sink_0_ok 16 rfl
theorem dX5_sink_25 : decode cX5_sink 25 = .ok (.getstatic 81, 3) := dd_all DX5_sink_0_ok 17 rfl
theorem dX5_sink_28 : decode cX5_sink 28 = .ok (.aload_n 0, 1) := dd_all DX5_sink_0_ok 18 rfl
theorem dX5_sink_29 : decode cX5_sink 29 = .ok (.getfield 9, 3) := dd_all DX5_sink_0_ok 19 rfl
theorem dX5_sink_32 : decode cX5_sink 32 = .ok (.iload_n 1, 1) := dd_all DX5_sink_0_ok 20 rfl
theorem dX5_sink_33 : decode cX5_sink 33 = .ok (.invokestatic 41, 3) := dd_all DX5_sink_0_ok 21 rfl
theorem dX5_sink_36 : decode cX5_sink 36 = .ok (.invokestatic 41, 3) := dd_all DX5_sink_0_ok 22 rfl
theorem dX5_sink_39 : decode cX5_sink 39 = .ok (.invokestatic 69, 3) := dd_all DX5_sink_0_ok 23 rfl
theorem dX5_sink_42 : decode cX5_sink 42 = .ok (.isub, 1) := dd_all DX5_sink_0_ok 24 rfl
theorem dX5_sink_43 : decode cX5_sink 43 = .ok (.invokestatic 84, 3) := dd_all DX5_sink_0_ok 25 rfl
theorem dX5_sink_46 : decode cX5_sink 46 = .ok (.istore 4, 2) := dd_all DX5_sink_0_ok 26 rfl
theorem dX5_sink_48 : decode cX5_sink 48 = .ok (.aload_n 0, 1) := dd_all DX5_sink_0_ok 27 rfl
theorem dX5_sink_49 : decode cX5_sink 49 = .ok (.getfield 24, 3) := dd_all DX5_sink_0_ok 28 rfl
theorem dX5_sink_52 : decode cX5_sink 52 = .ok (.iload_n 1, 1) := dd_all DX5_sink_0_ok 29 rfl
theorem dX5_sink_53 : decode cX5_sink 53 = .ok (.iload 4, 2) := dd_all DX5_sink_0_ok 30 rfl
theorem dX5_sink_55 : decode cX5_sink 55 = .ok (.invokestatic 37, 3) := dd_all DX5_sink_0_ok 31 rfl
theorem dX5_sink_58 : decode cX5_sink 58 = .ok (.iload 4, 2) := dd_all DX5_sink_0_ok 32 rfl
theorem dX5_sink_60 : decode cX5_sink 60 = .ok (.iload_n 3, 1) := dd_all DX5_sink_0_ok 33 rfl
theorem dX5_sink_61 : decode cX5_sink 61 = .ok (.if_icmp .ne 12, 3) := dd_all DX5_sink_0_ok 34 rfl
theorem dX5_sink_64 : decode cX5_sink 64 = .ok (.aload_n 0, 1) := dd_all DX5_sink_0_ok 35 rfl
theorem dX5_sink_65 : decode cX5_sink 65 = .ok (.getfield 21, 3) := dd_all DX5_sink_0_ok 36 rfl
theorem dX5_sink_68 : decode cX5_sink 68 = .ok (.iload_n 1, 1) := dd_all DX5_sink_0_ok 37 rfl
theorem dX5_sink_69 : decode cX5_sink 69 = .ok (.iconst 3, 1) := dd_all DX5_sink_0_ok 38 rfl
theorem dX5_sink_70 : decode cX5_sink 70 = .ok (.invokestatic 37, 3) := dd_all DX5_sink_0_ok 39 rfl
def DX5_sink_40 : List (Nat × Instr × Nat) := [(73, .return_, 1)]
theorem DX5_sink_40_ok : ∀ q ∈ DX5_sink_40, decode cX5_sink q.1 = .ok (q.2.1, q.2.2) := by decide +kernel
theorem dX5_sink_73 : decode cX5_sink 73 = .ok (.return_, 1) := dd_all DX5_sink_40_ok 0 rfl
def DX5_goDown_0 : List (Nat × Instr × Nat) := [(0, .iconst 0, 1), (1, .aload_n 0, 1), (2, .getfield 24, 3), (5, .iload_n 1, 1), (6, .invokestatic 41, 3), (9, .aload_n 0, 1), (10, .getfield 27, 3), (13, .iload_n 1, 1), (14, .invokestatic 41, 3), (17, .iload_n 2, 1), (18, .invokestatic 69, 3), (21, .isub, 1), (22, .invokestatic 84, 3), (25, .istore_n 3, 1), (26, .aload_n 0, 1), (27, .getfield 24, 3), (30, .iload_n 1, 1), (31, .iload_n 3, 1), (32, .invokestatic 37, 3), (35, .iload_n 3, 1), (36, .ifCond .ne 8, 3), (39, .aload_n 0, 1), (40, .iload_n 1, 1), (41, .invokevirtual 87, 3), (44, .return_, 1)]
theorem DX5_goDown_0_ok : ∀ q ∈ DX5_goDown_0, decode cX5_goDown q.1 = .ok (q.2.1, q.2.2) := by decide +kernel
theorem dX5_goDown_0 : decode cX5_goDown 0 = .ok (.iconst 0, 1) := dd_all DX5_goDown_0_ok 0 rfl
theorem dX5_goDown_1 : decode cX5_goDown 1 = .ok (.aload_n 0, 1) := dd_all DX5_goDown_0_ok 1 rfl
theorem dX5_goDown_2 : decode cX5_goDown 2 = .ok (.getfield 24, 3) := dd_all DX5_goDown_0_ok 2 rfl
theorem dX5_goDown_5 : decode cX5_goDown 5 = .ok (.iload_n 1, 1) := dd_all DX5_goDown_0_ok 3 rfl
theorem dX5_goDown_6 : decode cX5_goDown 6 = .ok (.invokestatic 41, 3) := dd_all DX5_goDown_0_ok 4 rfl
theorem dX5_goDown_9 : decode cX5_goDown 9 = .ok (.aload_n 0, 1) := dd_all DX5_goDown_0_ok 5 rfl
theorem dX5_goDown_10 : decode cX5_goDown 10 = .ok (.getfield 27, 3) := dd_all DX5_goDown_0_ok 6 rfl
theorem dX5_goDown_13 : decode cX5_goDown 13 = .ok (.iload_n 1, 1) := dd_all DX5_goDown_0_ok 7 rfl
theorem dX5_goDown_14 : decode cX5_goDown 14 = .ok (.invokestatic 41, 3) := dd_all DX5_goDown_0_ok 8 rfl
theorem dX5_goDown_17 : decode cX5_goDown 17 = .ok (.iload_n 2, 1) := dd_all DX5_goDown_0_ok 9 rfl
theorem dX5_goDown_18 : decode cX5_goDown 18 = .ok (.invokestatic 69, 3) := dd_all DX5_goDown_0_ok 10 rfl
theorem dX5_goDown_21 : decode cX5_goDown 21 = .ok (.isub, 1) := dd_all DX5_goDown_0_ok 11 rfl
theorem dX5_goDown_22 : decode cX5_goDown 22 = .ok (.invokestatic 84, 3) := dd_all DX5_goDown_0_ok 12 rfl
theorem dX5_goDown_25 : decode cX5_goDown 25 = .ok (.istore_n 3, 1) := dd_all DX5_goDown_0_ok 13 rfl
theorem dX5_goDown_26 : decode cX5_goDown 26 = .ok (.aload_n 0, 1) := dd_all DX5_goDown_0_ok 14 rfl
theorem dX5_goDown_27 : decode cX5_goDown 27 = .ok (.getfield 24, 3) := dd_all DX5_goDown_0_ok 15 rfl
theorem dX5_goDown_30 : decode cX5_goDown 30 = .ok (.iload_n 1, 1) := dd_all DX5_goDown_0_ok 16 rfl
theorem dX5_goDown_31 : decode cX5_goDown 31 = .ok (.iload_n 3, 1) := dd_all DX5_goDown_0_ok 17 rfl
theorem dX5_goDown_32 : decode cX5_goDown 32 = .ok (.invokestatic 37, 3) := dd_all DX5_goDown_0_ok 18 rfl
theorem dX5_goDown_35 : decode cX5_goDown 35 = .ok (.iload_n 3, 1) := dd_all DX5_goDown_0_ok 19 rfl
theorem dX5_goDown_36 : decode cX5_goDown 36 = .ok (.ifCond .ne 8, 3) := dd_all DX5_goDown_0_ok 20 rfl
theorem dX5_goDown_39 : decode cX5_goDown 39 = .ok (.aload_n 0, 1) := dd_all DX5_goDown_0_ok 21 rfl
theorem dX5_goDown_40 : decode cX5_goDown 40 = .ok (.iload_n 1, 1) := dd_all DX5_goDown_0_ok 22 rfl
theorem dX5_goDown_41 : decode cX5_goDown 41 = .ok (.invokevirtual 87, 3) := dd_all DX5_goDown_0_ok 23 rfl
theorem dX5_goDown_44 : decode cX5_goDown 44 = .ok (.return_, 1) := dd_all DX5_goDown_0_ok 24 rfl
def DX5_copyFrom_0 : List (Nat × Instr × Nat) := [(0, .aload_n 0, 1), (1, .aload_n 1, 1), (2, .getfield 33, 3), (5, .putfield 33, 3), (8, .aload_n 1, 1), (9, .getfield 9, 3), (12, .aload_n 0, 1), (13, .getfield 9, 3), (16, .aload_n 0, 1), (17, .getfield 33, 3), (20, .invokestatic 90, 3), (23, .aload_n 1, 1), (24, .getfield 15, 3), (27, .aload_n 0, 1), (28, .getfield 15, 3), (31, .aload_n 0, 1), (32, .getfield 33, 3), (35, .invokestatic 90, 3), (38, .aload_n 1, 1), (39, .getfield 18, 3), (42, .aload_n 0, 1), (43, .getfield 18, 3), (46, .aload_n 0, 1), (47, .getfield 33, 3), (50, .invokestatic 90, 3), (53, .aload_n 1, 1), (54, .getfield 21, 3), (57, .aload_n 0, 1), (58, .getfield 21, 3), (61, .aload_n 0, 1), (62, .getfield 33, 3), (65, .invokestatic 90, 3), (68, .aload_n 1, 1), (69, .getfield 24, 3), (72, .aload_n 0, 1), (73, .getfield 24, 3), (76, .aload_n 0, 1), (77, .getfield 33, 3), (80, .invokestatic 90, 3), (83, .aload_n 1, 1)]
theorem DX5_copyFrom_0_ok : ∀ q ∈ DX5_copyFrom_0, decode cX5_copyFrom q.1 = .ok (q.2.1, q.2.2) := by decide +kernel
theorem dX5_copyFrom_0 : decode cX5_copyFrom 0 = .ok (.aload_n 0, 1) := dd_all DX5_copyFrom_0_ok 0 rfl
theorem dX5_copyFrom_1 : decode cX5_copyFrom 1 = .ok (.aload_n 1, 1) := dd_all DX5_copyFrom_0_ok 1 rfl
theorem dX5_copyFrom_2 : decode cX5_copyFrom 2 = .ok (.getfield 33, 3) := dd_all DX5_copyFrom_0_ok 2 rfl
theorem dX5_copyFrom_5 : decode cX5_copyFrom 5 = .ok (.putfield 33, 3) := dd_all DX5_copyFrom_0_ok 3 rfl
theorem dX5_copyFrom_8 : decode cX5_copyFrom 8 = .ok (.aload_n 1, 1) := dd_all DX5_copyFrom_0_ok 4 rfl
theorem dX5_copyFrom_9 : decode cX5_copyFrom 9 = .ok (.getfield 9, 3) := dd_all DX5_copyFrom_0_ok 5 rfl
theorem dX5_copyFrom_12 : decode cX5_copyFrom 12 = .ok (.aload_n 0, 1) := dd_all DX5_copyFrom_0_ok 6 rfl
theorem dX5_copyFrom_13 : decode cX5_copyFrom 13 = .ok (.getfield 9, 3) := dd_all DX5_copyFrom_0_ok 7 rfl
theorem dX5_copyFrom_16 : decode cX5_copyFrom 16 = .ok (.aload_n 0, 1) := dd_all DX5_copyFrom_0_ok 8 rfl
theorem dX5_copyFrom_17 : decode cX5_copyFrom 17 = .ok (.getfield 33, 3) := dd_all DX5_copyFrom_0_ok 9 rfl
theorem dX5_copyFrom_20 : decode cX5_copyFrom 20 = .ok (.invokestatic 90, 3) := dd_all DX5_copyFrom_0_ok 10 rfl
theorem dX5_copyFrom_23 : decode cX5_copyFrom 23 = .ok (.aload_n 1, 1) := dd_all DX5_copyFrom_0_ok 11 rfl
theorem dX5_copyFrom_24 : decode cX5_copyFrom 24 = .ok (.getfield 15, 3) := dd_all DX5_copyFrom_0_ok 12 rfl
theorem dX5_copyFrom_27 : decode cX5_copyFrom 27 = .ok (.aload_n 0, 1) := dd_all DX5_copyFrom_0_ok 13 rfl
theorem dX5_copyFrom_28 : decode cX5_copyFrom 28 = .ok (.getfield 15, 3) := dd_all DX5_copyFrom_0_ok 14 rfl
theorem dX5_copyFrom_31 : decode cX5_copyFrom 31 = .ok (.aload_n 0, 1) := dd_all DX5_copyFrom_0_ok 15 rfl
theorem dX5_copyFrom_32 : decode cX5_copyFrom 32 = .ok (.getfield 33, 3) := dd_all DX5_copyFrom_0_ok 16 rfl
theorem dX5_copyFrom_35 : decode cX5_copyFrom 35 = .ok (.invokestatic 90, 3) := dd_all DX5_copyFrom_0_ok 17 rfl
theorem dX5_copyFrom_38 : decode cX5_copyFrom 38 = .ok (.aload_n 1, 1) := dd_all DX5_copyFrom_0_ok 18 rfl
theorem dX5_copyFrom_39 : decode cX5_copyFrom 39 = .ok (.getfield 18, 3) := dd_all DX5_copyFrom_0_ok 19 rfl
theorem dX5_copyFrom_42 : decode cX5_copyFrom 42 = .ok (.aload_n 0, 1) := dd_all DX5_copyFrom_0_ok 20 rfl
theorem dX5_copyFrom_43 : decode cX5_copyFrom 43 = .ok (.getfield 18, 3) := dd_all DX5_copyFrom_0_ok 21 rfl
theorem dX5_copyFrom_46 : decode cX5_copyFrom 46 = .ok (.aload_n 0, 1) := dd_all DX5_copyFrom_0_ok 22 rfl
theorem dX5_copyFrom_47 : decode cX5_copyFrom 47 = .ok (.getfield 33, 3) := dd_all DX5_copyFrom_0_ok 23 rfl
theorem dX5_copyFrom_50 : decode cX5_copyFrom 50 = .ok (.invokestatic 90, 3) := dd_all DX5_copyFrom_0_ok 24 rfl
theorem dX5_copyFrom_53 : decode cX5_copyFrom 53 = .ok (.aload_n 1, 1) := dd_all DX5_copyFrom_0_ok 25 rfl
theorem dX5_copyFrom_54 : decode cX5_copyFrom 54 = .ok (.getfield 21, 3) := dd_all DX5_copyFrom_0_ok 26 rfl
theorem dX5_copyFrom_57 : decode cX5_copyFrom 57 = .ok (.aload_n 0, 1) := dd_all DX5_copyFrom_0_ok 27 rfl
theorem dX5_copyFrom_58 : decode cX5_copyFrom 58 = .ok (.getfield 21, 3) := dd_all DX5_copyFrom_0_ok 28 rfl
theorem dX5_copyFrom_61 : decode cX5_copyFrom 61 = .ok (.aload_n 0, 1) := dd_all DX5_copyFrom_0_ok 29 rfl
theorem dX5_copyFrom_62 : decode cX5_copyFrom 62 = .ok (.getfield 33, 3) := dd_all DX5_copyFrom_0_ok 30 rfl
theorem dX5_copyFrom_65 : decode cX5_copyFrom 65 = .ok (.invokestatic 90, 3) := dd_all DX5_copyFrom_0_ok 31 rfl
theorem dX5_copyFrom_68 : decode cX5_copyFrom 68 = .ok (.aload_n 1, 1) := dd_all DX5_copyFrom_0_ok 32 rfl
theorem dX5_copyFrom_69 : decode cX5_copyFrom 69 = .ok (.getfield 24, 3) := dd_all DX5_copyFrom_0_ok 33 rfl
theorem dX5_copyFrom_72 : decode cX5_copyFrom 72 = .ok (.aload_n 0, 1) := dd_all DX5_copyFrom_0_ok 34 rfl
theorem dX5_copyFrom_73 : decode cX5_copyFrom 73 = .ok (.getfield 24, 3) := dd_all DX5_copyFrom_0_ok 35 rfl
theorem dX5_copyFrom_76 : decode cX5_copyFrom 76 = .ok (.aload_n 0, 1) := dd_all DX5_copyFrom_0_ok 36 rfl
theorem dX5_copyFrom_77 : decode cX5_copyFrom 77 = .ok (.getfield 33, 3) := dd_all DX5_copyFrom_0_ok 37 rfl
theorem dX5_copyFrom_80 : decode cX5_copyFrom 80 = .ok (.invokestatic 90, 3) := dd_all DX5_copyFrom_0_ok 38 rfl
theorem dX5_copyFrom_83 : decode cX5_copyFrom 83 = .ok (.aload_n 1, 1) := dd_all DX5_copyFrom_0_ok 39 rfl
def DX5_copyFrom_40 : List (Nat × Instr × Nat) := [(84, .getfield 27, 3), (87, .aload_n 0, 1), (88, .getfield 27, 3), (91, .aload_n 0, 1), (92, .getfield 33, 3), (95, .invokestatic 90, 3), (98, .aload_n 1, 1), (99, .getfield 30, 3), (102, .aload_n 0, 1), (103, .getfield 30, 3), (106, .aload_n 0, 1), (107, .getfield 33, 3), (110, .invokestatic 90, 3), (113, .return_, 1)]
theorem DX5_copyFrom_40_ok : ∀ q ∈ DX5_copyFrom_40, decode cX5_copyFrom q.1 = .ok (q.2.1, q.2.2) := by decide +kernel
theorem dX5_copyFrom_84 : decode cX5_copyFrom 84 = .ok (.getfield 27, 3) := dd_all DX5_copyFrom_40_ok 0 rfl
theorem dX5_copyFrom_87 : decode cX5_copyFrom 87 = .ok (.aload_n 0, 1) := dd_all DX5_copyFrom_40_ok 1 rfl
theorem dX5_copyFrom_88 : decode cX5_copyFrom 88 = .ok (.getfield 27, 3) := dd_all DX5_copyFrom_40_ok 2 rfl
theorem dX5_copyFrom_91 : decode cX5_copyFrom 91 = .ok (.aload_n 0, 1) := dd_all DX5_copyFrom_40_ok 3 rfl
theorem dX5_copyFrom_92 : decode cX5_copyFrom 92 = .ok (.getfield 33, 3) := dd_all DX5_copyFrom_40_ok 4 rfl
theorem dX5_copyFrom_95 : decode cX5_copyFrom 95 = .ok (.invokestatic 90, 3) := dd_all DX5_copyFrom_40_ok 5 rfl
theorem dX5_copyFrom_98 : decode cX5_copyFrom 98 = .ok (.aload_n 1, 1) := dd_all DX5_copyFrom_40_ok 6 rfl
theorem dX5_copyFrom_99 : decode cX5_copyFrom 99 = .ok (.getfield 30, 3) := dd_all DX5_copyFrom_40_ok 7 rfl
theorem dX5_copyFrom_102 : decode cX5_copyFrom 102 = .ok (.aload_n 0, 1) := dd_all DX5_copyFrom_40_ok 8 rfl
theorem dX5_copyFrom_103 : decode cX5_copyFrom 103 = .ok (.getfield 30, 3) := dd_all DX5_copyFrom_40_ok 9 rfl
theorem dX5_copyFrom_106 : decode cX5_copyFrom 106 = .ok (.aload_n 0, 1) := dd_all DX5_copyFrom_40_ok 10 rfl
theorem dX5_copyFrom_107 : decode cX5_copyFrom 107 = .ok (.getfield 33, 3) := dd_all DX5_copyFrom_40_ok 11 rfl
theorem dX5_copyFrom_110 : decode cX5_copyFrom 110 = .ok (.invokestatic 90, 3) := dd_all DX5_copyFrom_40_ok 12 rfl
theorem dX5_copyFrom_113 : decode cX5_copyFrom 113 = .ok (.return_, 1) := dd_all DX5_copyFrom_40_ok 13 rfl
def DX6_init_0 : List (Nat × Instr × Nat) := [(0, .aload_n 0, 1), (1, .invokespecial 3, 3), (4, .return_, 1)]
theorem DX6_init_0_ok : ∀ q ∈ DX6_init_0, decode cX6_init q.1 = .ok (q.2.1, q.2.2) := by decide +kernel
theorem dX6_init_0 : decode cX6_init 0 = .ok (.aload_n 0, 1) := dd_all DX6_init_0_ok 0 rfl
theorem dX6_init_1 : decode cX6_init 1 = .ok (.invokespecial 3, 3) := dd_all DX6_init_0_ok 1 rfl
theorem dX6_init_4 : decode cX6_init 4 = .ok (.return_, 1) := dd_all DX6_init_0_ok 2 rfl
def DX6_read_0 : List (Nat × Instr × Nat) := [(0, .aload_n 0, 1), (1, .iconst 0, 1), (2, .putfield 11, 3), (5, .aload_n 0, 1), (6, .iconst 0, 1), (7, .putfield 15, 3), (10, .iconst 0, 1), (11, .istore_n 2, 1), (12, .iload_n 2, 1), (13, .aload_n 1, 1), (14, .getfield 18, 3), (17, .if_icmp .ge 35, 3), (20, .aload_n 0, 1), (21, .aload_n 0, 1), (22, .aload_n 1, 1), (23, .iload_n 2, 1), (24, .invokevirtual 23, 3), (27, .invokevirtual 27, 3), (30, .putfield 31, 3), (33, .aload_n 0, 1), (34, .getfield 31, 3), (37, .ifCond .eq 9, 3), (40, .aload_n 0, 1), (41, .iload_n 2, 1), (42, .putfield 34, 3), (45, .return_, 1), (46, .iinc 2 1, 3), (49, .goto (-37), 3), (52, .aload_n 0, 1), (53, .aload_n 1, 1), (54, .getfield 18, 3), (57, .putfield 34, 3), (60, .aload_n 0, 1), (61, .aload_n 0, 1), (62, .invokevirtual 37, 3), (65, .ifCond .eq 7, 3), (68, .iconst 0, 1), (69, .goto 4, 3), (72, .iconst 3, 1), (73, .putfield 31, 3)]
theorem DX6_read_0_ok : ∀ q ∈ DX6_read_0, decode cX6_read q.1 = .ok (q.2.1, q.2.2) := by decide +kernel
theorem dX6_read_0 : decode cX6_read 0 = .ok (.aload_n 0, 1) := dd_all DX6_read_0_ok 0 rfl
theorem dX6_read_1 : decode cX6_read 1 = .ok (.iconst 0, 1) := dd_all DX6_read_0_ok 1 rfl
theorem dX6_read_2 : decode cX6_read 2 = .ok (.putfield 11, 3) := dd_all DX6_read_0_ok 2 rfl
theorem dX6_read_5 : decode cX6_read 5 = .ok (.aload_n 0, 1) := dd_all DX6_read_0_ok 3 rfl
theorem dX6_read_6 : decode cX6_read 6 = .ok (.iconst 0, 1) := dd_all DX6_read_0_ok 4 rfl
theorem dX6_read_7 : decode cX6_read 7 = .ok (.putfield 15, 3) := dd_all DX6_read_0_ok 5 rfl
theorem dX6_read_10 : decode cX6_read 10 = .ok (.iconst 0, 1) := dd_all DX6_read_0_ok 6 rfl
theorem dX6_read_11 : decode cX6_read 11 = .ok (.istore_n 2, 1) := dd_all DX6_read_0_ok 7 rfl
theorem dX6_read_12 : decode cX6_read 12 = .ok (.iload_n 2, 1) := dd_all DX6_read_0_ok 8 rfl
theorem dX6_read_13 : decode cX6_read 13 = .ok (.aload_n 1, 1) := dd_all DX6_read_0_ok 9 rfl
theorem dX6_read_14 : decode cX6_read 14 = .ok (.getfield 18, 3) := dd_all DX6_read_0_ok 10 rfl
theorem dX6_read_17 : decode cX6_read 17 = .ok (.if_icmp .ge 35, 3) := dd_all DX6_read_0_ok 11 rfl
theorem dX6_read_20 : decode cX6_read 20 = .ok (.aload_n 0, 1) := dd_all DX6_read_0_ok 12 rfl
theorem dX6_read_21 : decode cX6_read 21 = .ok (.aload_n 0, 1) := dd_all DX6_read_0_ok 13 rfl
theorem dX6_read_22 : decode cX6_read 22 = .ok (.aload_n 1, 1) := dd_all DX6_read_0_ok 14 rfl
theorem dX6_read_23 : decode cX6_read 23 = .ok (.iload_n 2, 1) := dd_all DX6_read_0_ok 15 rfl
theorem dX6_read_24 : decode cX6_read 24 = .ok (.invokevirtual 23, 3) := dd_all DX6_read_0_ok 16 rfl
theorem dX6_read_27 : decode cX6_read 27 = .ok (.invokevirtual 27, 3) := dd_all DX6_read_0_ok 17 rfl
theorem dX6_read_30 : decode cX6_read 30 = .ok (.putfield 31, 3) := dd_all DX6_read_0_ok 18 rfl
theorem dX6_read_33 : decode cX6_read 33 = .ok (.aload_n 0, 1) := dd_all DX6_read_0_ok 19 rfl
theorem dX6_read_34 : decode cX6_read 34 = .ok (.getfield 31, 3) := dd_all DX6_read_0_ok 20 rfl
theorem dX6_read_37 : decode cX6_read 37 = .ok (.ifCond .eq 9, 3) := dd_all DX6_read_0_ok 21 rfl
theorem dX6_read_40 : decode cX6_read 40 = .ok (.aload_n 0, 1) := dd_all DX6_read_0_ok 22 rfl
theorem dX6_read_41 : decode cX6_read 41 = .ok (.iload_n 2, 1) := dd_all DX6_read_0_ok 23 rfl
theorem dX6_read_42 : decode cX6_read 42 = .ok (.putfield 34, 3) := dd_all DX6_read_0_ok 24 rfl
theorem dX6_read_45 : decode cX6_read 45 = .ok (.return_, 1) := dd_all DX6_read_0_ok 25 rfl
theorem dX6_read_46 : decode cX6_read 46 = .ok (.iinc 2 1, 3) := dd_all DX6_read_0_ok 26 rfl
theorem dX6_read_49 : decode cX6_read 49 = .ok (.goto (-37), 3) := dd_all DX6_read_0_ok 27 rfl
theorem dX6_read_52 : decode cX6_read 52 = .ok (.aload_n 0, 1) := dd_all DX6_read_0_ok 28 rfl
theorem dX6_read_53 : decode cX6_read 53 = .ok (.aload_n 1, 1) := dd_all DX6_read_0_ok 29 rfl
theorem dX6_read_54 : decode cX6_read 54 = .ok (.getfield 18, 3) := dd_all DX6_read_0_ok 30 rfl
theorem dX6_read_57 : decode cX6_read 57 = .ok (.putfield 34, 3) := dd_all DX6_read_0_ok 31 rfl
theorem dX6_read_60 : decode cX6_read 60 = .ok (.aload_n 0, 1) := dd_all DX6_read_0_ok 32 rfl
theorem dX6_read_61 : decode cX6_read 61 = .ok (.aload_n 0, 1) := dd_all DX6_read_0_ok 33 rfl
theorem dX6_read_62 : decode cX6_read 62 = .ok (.invokevirtual 37, 3) := dd_all DX6_read_0_ok 34 rfl
theorem dX6_read_65 : decode cX6_read 65 = .ok (.ifCond .eq 7, 3) := dd_all DX6_read_0_ok 35 rfl
theorem dX6_read_68 : decode cX6_read 68 = .ok (.iconst 0, 1) := dd_all DX6_read_0_ok 36 rfl
theorem dX6_read_69 : decode cX6_read 69 = .ok (.goto 4, 3) := dd_all DX6_read_0_ok 37 rfl
theorem dX6_read_72 : decode cX6_read 72 = .ok (.iconst 3, 1) := dd_all DX6_read_0_ok 38 rfl
theorem dX6_read_73 : decode cX6_read 73 = .ok (.putfield 31, 3) := dd_all DX6_read_0_ok 39 rfl
def DX6_read_40 : List (Nat × Instr × Nat) := [(76, .return_, 1)]
theorem DX6_read_40_ok : ∀ q ∈ DX6_read_40, decode cX6_read q.1 = .ok (q.2.1, q.2.2) := by decide +kernel
theorem dX6_read_76 : decode cX6_read 76 = .ok (.return_, 1) := dd_all DX6_read_40_ok 0 rfl
def DX6_mayEnd_0 : List (Nat × Instr × Nat) := [(0, .aload_n 0, 1), (1, .getfield 15, 3), (4, .ifCond .ne 23, 3), (7, .aload_n 0, 1), (8, .getfield 11, 3), (11, .iconst 1, 1), (12, .if_icmp .eq 11, 3), (15, .aload_n 0, 1), (16, .getfield 11, 3), (19, .iconst 3, 1), (20, .if_icmp .ne 7, 3), (23, .iconst 1, 1), (24, .goto 4, 3), (27, .iconst 0, 1), (28, .ireturn, 1)]
theorem DX6_mayEnd_0_ok : ∀ q ∈ DX6_mayEnd_0, decode cX6_mayEnd q.1 = .ok (q.2.1, q.2.2) := by decide +kernel
theorem dX6_mayEnd_0 : decode cX6_mayEnd 0 = .ok (.aload_n 0, 1) := dd_all DX6_mayEnd_0_ok 0 rfl
theorem dX6_mayEnd_1 : decode cX6_mayEnd 1 = .ok (.getfield 15, 3) := dd_all DX6_mayEnd_0_ok 1 rfl
theorem dX6_mayEnd_4 : decode cX6_mayEnd 4 = .ok (.ifCond .ne 23, 3) := dd_all DX6_mayEnd_0_ok 2 rfl
theorem dX6_mayEnd_7 : decode cX6_mayEnd 7 = .ok (.aload_n 0, 1) := dd_all DX6_mayEnd_0_ok 3 rfl
theorem dX6_mayEnd_8 : decode cX6_mayEnd 8 = .ok (.getfield 11, 3) := dd_all DX6_mayEnd_0_ok 4 rfl
theorem dX6_mayEnd_11 : decode cX6_mayEnd 11 = .ok (.iconst 1, 1) := dd_all DX6_mayEnd_0_ok 5 rfl
theorem dX6_mayEnd_12 : decode cX6_mayEnd 12 = .ok (.if_icmp .eq 11, 3) := dd_all DX6_mayEnd_0_ok 6 rfl
theorem dX6_mayEnd_15 : decode cX6_mayEnd 15 = .ok (.aload_n 0, 1) := dd_all DX6_mayEnd_0_ok 7 rfl
theorem dX6_mayEnd_16 : decode cX6_mayEnd 16 = .ok (.getfield 11, 3) := dd_all DX6_mayEnd_0_ok 8 rfl
theorem dX6_mayEnd_19 : decode cX6_mayEnd 19 = .ok (.iconst 3, 1) := dd_all DX6_mayEnd_0_ok 9 rfl
theorem dX6_mayEnd_20 : decode cX6_mayEnd 20 = .ok (.if_icmp .ne 7, 3) := dd_all DX6_mayEnd_0_ok 10 rfl
theorem dX6_mayEnd_23 : decode cX6_mayEnd 23 = .ok (.iconst 1, 1) := dd_all DX6_mayEnd_0_ok 11 rfl
theorem dX6_mayEnd_24 : decode cX6_mayEnd 24 = .ok (.goto 4, 3) := dd_all DX6_mayEnd_0_ok 12 rfl
theorem dX6_mayEnd_27 : decode cX6_mayEnd 27 = .ok (.iconst 0, 1) := dd_all DX6_mayEnd_0_ok 13 rfl
theorem dX6_mayEnd_28 : decode cX6_mayEnd 28 = .ok (.ireturn, 1) := dd_all DX6_mayEnd_0_ok 14 rfl
def DX6_take_0 : List (Nat × Instr × Nat) := [(0, .aload_n 0, 1), (1, .getfield 11, 3), (4, .lookupswitch 40 #[(0, 28), (2, 34)], 28), (32, .aload_n 0, 1), (33, .iload_n 1, 1), (34, .invokevirtual 41, 3), (37, .ireturn, 1), (38, .aload_n 0, 1), (39, .iload_n 1, 1), (40, .invokevirtual 44, 3), (43, .ireturn, 1), (44, .aload_n 0, 1), (45, .iload_n 1, 1), (46, .invokevirtual 47, 3), (49, .ireturn, 1)]
theorem DX6_take_0_ok : ∀ q ∈ DX6_take_0, decode cX6_take q.1 = .ok (q.2.1, q.2.2) := by decide +kernel
theorem dX6_take_0 : decode cX6_take 0 = .ok (.aload_n 0, 1) := dd_all DX6_take_0_ok 0 rfl
theorem dX6_take_1 : decode cX6_take 1 = .ok (.getfield 11, 3) := dd_all DX6_take_0_ok 1 rfl
theorem dX6_take_4 : decode cX6_take 4 = .ok (.lookupswitch 40 #[(0, 28), (2, 34)], 28) := dd_all DX6_take_0_ok 2 rfl
theorem dX6_take_32 : decode cX6_take 32 = .ok (.aload_n 0, 1) := dd_all DX6_take_0_ok 3 rfl
theorem dX6_take_33 : decode cX6_take 33 = .ok (.iload_n 1, 1) := dd_all DX6_take_0_ok 4 rfl
theorem dX6_take_34 : decode cX6_take 34 = .ok (.invokevirtual 41, 3) := dd_all DX6_take_0_ok 5 rfl
theorem dX6_take_37 : decode cX6_take 37 = .ok (.ireturn, 1) := dd_all DX6_take_0_ok 6 rfl
theorem dX6_take_38 : decode cX6_take 38 = .ok (.aload_n 0, 1) := dd_all DX6_take_0_ok 7 rfl
theorem dX6_take_39 : decode cX6_take 39 = .ok (.iload_n 1, 1) := dd_all DX6_take_0_ok 8 rfl
theorem dX6_take_40 : decode cX6_take 40 = .ok (.invokevirtual 44, 3) := dd_all DX6_take_0_ok 9 rfl
theorem dX6_take_43 : decode cX6_take 43 = .ok (.ireturn, 1) := dd_all DX6_take_0_ok 10 rfl
theorem dX6_take_44 : decode cX6_take 44 = .ok (.aload_n 0, 1) := dd_all DX6_take_0_ok 11 rfl
theorem dX6_take_45 : decode cX6_take 45 = .ok (.iload_n 1, 1) := dd_all DX6_take_0_ok 12 rfl
theorem dX6_take_46 : decode cX6_take 46 = .ok (.invokevirtual 47, 3) := dd_all DX6_take_0_ok 13 rfl
theorem dX6_take_49 : decode cX6_take 49 = .ok (.ireturn, 1) := dd_all DX6_take_0_ok 14 rfl
def DX6_takeThing_0 : List (Nat × Instr × Nat) := [(0, .iload_n 1, 1), (1, .bipush 40, 2), (3, .if_icmp .ne 8, 3), (6, .aload_n 0, 1), (7, .invokevirtual 50, 3), (10, .ireturn, 1), (11, .aload_n 0, 1), (12, .iconst 1, 1), (13, .putfield 11, 3), (16, .iload_n 1, 1), (17, .invokestatic 54, 3), (20, .iconst (-1), 1), (21, .if_icmp .ne 7, 3), (24, .iconst 1, 1), (25, .goto 4, 3), (28, .iconst 0, 1), (29, .ireturn, 1)]
theorem DX6_takeThing_0_ok : ∀ q ∈ DX6_takeThing_0, decode cX6_takeThing q.1 = .ok (q.2.1, q.2.2) := by decide +kernel
theorem dX6_takeThing_0 : decode cX6_takeThing 0 = .ok (.iload_n 1, 1) := dd_all DX6_takeThing_0_ok 0 rfl
theorem dX6_takeThing_1 : decode cX6_takeThing 1 = .ok (.bipush 40, 2) := dd_all DX6_takeThing_0_ok 1 rfl
theorem dX6_takeThing_3 : decode cX6_takeThing 3 = .ok (.if_icmp .ne 8, 3) := dd_all DX6_takeThing_0_ok 2 rfl
theorem dX6_takeThing_6 : decode cX6_takeThing 6 = .ok (.aload_n 0, 1) := dd_all DX6_takeThing_0_ok 3 rfl
theorem dX6_takeThing_7 : decode cX6_takeThing 7 = .ok (.invokevirtual 50, 3) := dd_all DX6_takeThing_0_ok 4 rfl
theorem dX6_takeThing_10 : decode cX6_takeThing 10 = .ok (.ireturn, 1) := dd_all DX6_takeThing_0_ok 5 rfl
theorem dX6_takeThing_11 : decode cX6_takeThing 11 = .ok (.aload_n 0, 1) := dd_all DX6_takeThing_0_ok 6 rfl
theorem dX6_takeThing_12 : decode cX6_takeThing 12 = .ok (.iconst 1, 1) := dd_all DX6_takeThing_0_ok 7 rfl
theorem dX6_takeThing_13 : decode cX6_takeThing 13 = .ok (.putfield 11, 3) := dd_all DX6_takeThing_0_ok 8 rfl
theorem dX6_takeThing_16 : decode cX6_takeThing 16 = .ok (.iload_n 1, 1) := dd_all DX6_takeThing_0_ok 9 rfl
theorem dX6_takeThing_17 : decode cX6_takeThing 17 = .ok (.invokestatic 54, 3) := dd_all DX6_takeThing_0_ok 10 rfl
theorem dX6_takeThing_20 : decode cX6_takeThing 20 = .ok (.iconst (-1), 1) := dd_all DX6_takeThing_0_ok 11 rfl
theorem dX6_takeThing_21 : decode cX6_takeThing 21 = .ok (.if_icmp .ne 7, 3) := dd_all DX6_takeThing_0_ok 12 rfl
theorem dX6_takeThing_24 : decode cX6_takeThing 24 = .ok (.iconst 1, 1) := dd_all DX6_takeThing_0_ok 13 rfl
theorem dX6_takeThing_25 : decode cX6_takeThing 25 = .ok (.goto 4, 3) := dd_all DX6_takeThing_0_ok 14 rfl
theorem dX6_takeThing_28 : decode cX6_takeThing 28 = .ok (.iconst 0, 1) := dd_all DX6_takeThing_0_ok 15 rfl
theorem dX6_takeThing_29 : decode cX6_takeThing 29 = .ok (.ireturn, 1) := dd_all DX6_takeThing_0_ok 16 rfl
def DX6_takeOpening_0 : List (Nat × Instr × Nat) := [(0, .aload_n 0, 1), (1, .getfield 15, 3), (4, .bipush 6, 2), (6, .if_icmp .ne 5, 3), (9, .iconst 2, 1), (10, .ireturn, 1), (11, .aload_n 0, 1), (12, .dup, 1), (13, .getfield 15, 3), (16, .iconst 1, 1), (17, .iadd, 1), (18, .putfield 15, 3), (21, .iconst 0, 1), (22, .ireturn, 1)]
theorem DX6_takeOpening_0_ok : ∀ q ∈ DX6_takeOpening_0, decode cX6_takeOpening q.1 = .ok (q.2.1, q.2.2) := by decide +kernel
theorem dX6_takeOpening_0 : decode cX6_takeOpening 0 = .ok (.aload_n 0, 1) := dd_all DX6_takeOpening_0_ok 0 rfl
theorem dX6_takeOpening_1 : decode cX6_takeOpening 1 = .ok (.getfield 15, 3) := dd_all DX6_takeOpening_0_ok 1 rfl
theorem dX6_takeOpening_4 : decode cX6_takeOpening 4 = .ok (.bipush 6, 2) := dd_all DX6_takeOpening_0_ok 2 rfl
theorem dX6_takeOpening_6 : decode cX6_takeOpening 6 = .ok (.if_icmp .ne 5, 3) := dd_all DX6_takeOpening_0_ok 3 rfl
theorem dX6_takeOpening_9 : decode cX6_takeOpening 9 = .ok (.iconst 2, 1) := dd_all DX6_takeOpening_0_ok 4 rfl
theorem dX6_takeOpening_10 : decode cX6_takeOpening 10 = .ok (.ireturn, 1) := dd_all DX6_takeOpening_0_ok 5 rfl
theorem dX6_takeOpening_11 : decode cX6_takeOpening 11 = .ok (.aload_n 0, 1) := dd_all DX6_takeOpening_0_ok 6 rfl
theorem dX6_takeOpening_12 : decode cX6_takeOpening 12 = .ok (.dup, 1) := dd_all DX6_takeOpening_0_ok 7 rfl
theorem dX6_takeOpening_13 : decode cX6_takeOpening 13 = .ok (.getfield 15, 3) := dd_all DX6_takeOpening_0_ok 8 rfl
theorem dX6_takeOpening_16 : decode cX6_takeOpening 16 = .ok (.iconst 1, 1) := dd_all DX6_takeOpening_0_ok 9 rfl
theorem dX6_takeOpening_17 : decode cX6_takeOpening 17 = .ok (.iadd, 1) := dd_all DX6_takeOpening_0_ok 10 rfl
theorem dX6_takeOpening_18 : decode cX6_takeOpening 18 = .ok (.putfield 15, 3) := dd_all DX6_takeOpening_0_ok 11 rfl
theorem dX6_takeOpening_21 : decode cX6_takeOpening 21 = .ok (.iconst 0, 1) := dd_all DX6_takeOpening_0_ok 12 rfl
theorem dX6_takeOpening_22 : decode cX6_takeOpening 22 = .ok (.ireturn, 1) := dd_all DX6_takeOpening_0_ok 13 rfl
def DX6_takeDigit_0 : List (Nat × Instr × Nat) := [(0, .aload_n 0, 1), (1, .iconst 3, 1), (2, .putfield 11, 3), (5, .iload_n 1, 1), (6, .bipush 48, 2), (8, .if_icmp .lt 13, 3), (11, .iload_n 1, 1), (12, .bipush 57, 2), (14, .if_icmp .gt 7, 3), (17, .iconst 0, 1), (18, .goto 4, 3), (21, .iconst 1, 1), (22, .ireturn, 1)]
theorem DX6_takeDigit_0_ok : ∀ q ∈ DX6_takeDigit_0, decode cX6_takeDigit q.1 = .ok (q.2.1, q.2.2) := by decide +kernel
theorem dX6_takeDigit_0 : decode cX6_takeDigit 0 = .ok (.aload_n 0, 1) := dd_all DX6_takeDigit_0_ok 0 rfl
theorem dX6_takeDigit_1 : decode cX6_takeDigit 1 = .ok (.iconst 3, 1) := dd_all DX6_takeDigit_0_ok 1 rfl
theorem dX6_takeDigit_2 : decode cX6_takeDigit 2 = .ok (.putfield 11, 3) := dd_all DX6_takeDigit_0_ok 2 rfl
theorem dX6_takeDigit_5 : decode cX6_takeDigit 5 = .ok (.iload_n 1, 1) := dd_all DX6_takeDigit_0_ok 3 rfl
theorem dX6_takeDigit_6 : decode cX6_takeDigit 6 = .ok (.bipush 48, 2) := dd_all DX6_takeDigit_0_ok 4 rfl
theorem dX6_takeDigit_8 : decode cX6_takeDigit 8 = .ok (.if_icmp .lt 13, 3) := dd_all DX6_takeDigit_0_ok 5 rfl
theorem dX6_takeDigit_11 : decode cX6_takeDigit 11 = .ok (.iload_n 1, 1) := dd_all DX6_takeDigit_0_ok 6 rfl
theorem dX6_takeDigit_12 : decode cX6_takeDigit 12 = .ok (.bipush 57, 2) := dd_all DX6_takeDigit_0_ok 7 rfl
theorem dX6_takeDigit_14 : decode cX6_takeDigit 14 = .ok (.if_icmp .gt 7, 3) := dd_all DX6_takeDigit_0_ok 8 rfl
theorem dX6_takeDigit_17 : decode cX6_takeDigit 17 = .ok (.iconst 0, 1) := dd_all DX6_takeDigit_0_ok 9 rfl
theorem dX6_takeDigit_18 : decode cX6_takeDigit 18 = .ok (.goto 4, 3) := dd_all DX6_takeDigit_0_ok 10 rfl
theorem dX6_takeDigit_21 : decode cX6_takeDigit 21 = .ok (.iconst 1, 1) := dd_all DX6_takeDigit_0_ok 11 rfl
theorem dX6_takeDigit_22 : decode cX6_takeDigit 22 = .ok (.ireturn, 1) := dd_all DX6_takeDigit_0_ok 12 rfl
def DX6_takeBehind_0 : List (Nat × Instr × Nat) := [(0, .iload_n 1, 1), (1, .bipush 43, 2), (3, .if_icmp .eq 9, 3), (6, .iload_n 1, 1), (7, .bipush 94, 2), (9, .if_icmp .ne 10, 3), (12, .aload_n 0, 1), (13, .iconst 0, 1), (14, .putfield 11, 3), (17, .iconst 0, 1), (18, .ireturn, 1), (19, .iload_n 1, 1), (20, .bipush 42, 2), (22, .if_icmp .ne 18, 3), (25, .aload_n 0, 1), (26, .getfield 11, 3), (29, .iconst 1, 1), (30, .if_icmp .ne 10, 3), (33, .aload_n 0, 1), (34, .iconst 2, 1), (35, .putfield 11, 3), (38, .iconst 0, 1), (39, .ireturn, 1), (40, .iload_n 1, 1), (41, .bipush 41, 2), (43, .if_icmp .ne 27, 3), (46, .aload_n 0, 1), (47, .getfield 15, 3), (50, .ifCond .le 20, 3), (53, .aload_n 0, 1), (54, .dup, 1), (55, .getfield 15, 3), (58, .iconst 1, 1), (59, .isub, 1), (60, .putfield 15, 3), (63, .aload_n 0, 1), (64, .iconst 1, 1), (65, .putfield 11, 3), (68, .iconst 0, 1), (69, .ireturn, 1)]
theorem DX6_takeBehind_0_ok : ∀ q ∈ DX6_takeBehind_0, decode cX6_takeBehind q.1 = .ok (q.2.1, q.2.2) := by decide +kernel
theorem dX6_takeBehind_0 : decode cX6_takeBehind 0 = .ok (.iload_n 1, 1) := dd_all DX6_takeBehind_0_ok 0 rfl
theorem dX6_takeBehind_1 : decode cX6_takeBehind 1 = .ok (.bipush 43, 2) := dd_all DX6_takeBehind_0_ok 1 rfl
theorem dX6_takeBehind_3 : decode cX6_takeBehind 3 = .ok (.if_icmp .eq 9, 3) := dd_all DX6_takeBehind_0_ok 2 rfl
theorem dX6_takeBehind_6 : decode cX6_takeBehind 6 = .ok (.iload_n 1, 1) := dd_all DX6_takeBehind_0_ok 3 rfl
theorem dX6_takeBehind_7 : decode cX6_takeBehind 7 = .ok (.bipush 94, 2) := dd_all DX6_takeBehind_0_ok 4 rfl
theorem dX6_takeBehind_9 : decode cX6_takeBehind 9 = .ok (.if_icmp .ne 10, 3) := dd_all DX6_takeBehind_0_ok 5 rfl
theorem dX6_takeBehind_12 : decode cX6_takeBehind 12 = .ok (.aload_n 0, 1) := dd_all DX6_takeBehind_0_ok 6 rfl
theorem dX6_takeBehind_13 : decode cX6_takeBehind 13 = .ok (.iconst 0, 1) := dd_all DX6_takeBehind_0_ok 7 rfl
theorem dX6_takeBehind_14 : decode cX6_takeBehind 14 = .ok (.putfield 11, 3) := dd_all DX6_takeBehind_0_ok 8 rfl
theorem dX6_takeBehind_17 : decode cX6_takeBehind 17 = .ok (.iconst 0, 1) := dd_all DX6_takeBehind_0_ok 9 rfl
theorem dX6_takeBehind_18 : decode cX6_takeBehind 18 = .ok (.ireturn, 1) := dd_all DX6_takeBehind_0_ok 10 rfl
theorem dX6_takeBehind_19 : decode cX6_takeBehind 19 = .ok (.iload_n 1, 1) := dd_all DX6_takeBehind_0_ok 11 rfl
theorem dX6_takeBehind_20 : decode cX6_takeBehind 20 = .ok (.bipush 42, 2) := dd_all DX6_takeBehind_0_ok 12 rfl
theorem dX6_takeBehind_22 : decode cX6_takeBehind 22 = .ok (.if_icmp .ne 18, 3) := dd_all DX6_takeBehind_0_ok 13 rfl
theorem dX6_takeBehind_25 : decode cX6_takeBehind 25 = .ok (.aload_n 0, 1) := dd_all DX6_takeBehind_0_ok 14 rfl
theorem dX6_takeBehind_26 : decode cX6_takeBehind 26 = .ok (.getfield 11, 3) := dd_all DX6_takeBehind_0_ok 15 rfl
theorem dX6_takeBehind_29 : decode cX6_takeBehind 29 = .ok (.iconst 1, 1) := dd_all DX6_takeBehind_0_ok 16 rfl
theorem dX6_takeBehind_30 : decode cX6_takeBehind 30 = .ok (.if_icmp .ne 10, 3) := dd_all DX6_takeBehind_0_ok 17 rfl
theorem dX6_takeBehind_33 : decode cX6_takeBehind 33 = .ok (.aload_n 0, 1) := dd_all DX6_takeBehind_0_ok 18 rfl
theorem dX6_takeBehind_34 : decode cX6_takeBehind 34 = .ok (.iconst 2, 1) := dd_all DX6_takeBehind_0_ok 19 rfl
theorem dX6_takeBehind_35 : decode cX6_takeBehind 35 = .ok (.putfield 11, 3) := dd_all DX6_takeBehind_0_ok 20 rfl
theorem dX6_takeBehind_38 : decode cX6_takeBehind 38 = .ok (.iconst 0, 1) := dd_all DX6_takeBehind_0_ok 21 rfl
theorem dX6_takeBehind_39 : decode cX6_takeBehind 39 = .ok (.ireturn, 1) := dd_all DX6_takeBehind_0_ok 22 rfl
theorem dX6_takeBehind_40 : decode cX6_takeBehind 40 = .ok (.iload_n 1, 1) := dd_all DX6_takeBehind_0_ok 23 rfl
theorem dX6_takeBehind_41 : decode cX6_takeBehind 41 = .ok (.bipush 41, 2) := dd_all DX6_takeBehind_0_ok 24 rfl
theorem dX6_takeBehind_43 : decode cX6_takeBehind 43 = .ok (.if_icmp .ne 27, 3) := dd_all DX6_takeBehind_0_ok 25 rfl
theorem dX6_takeBehind_46 : decode cX6_takeBehind 46 = .ok (.aload_n 0, 1) := dd_all DX6_takeBehind_0_ok 26 rfl
theorem dX6_takeBehind_47 : decode cX6_takeBehind 47 = .ok (.getfield 15, 3) := dd_all DX6_takeBehind_0_ok 27 rfl
theorem dX6_takeBehind_50 : decode cX6_takeBehind 50 = .ok (.ifCond .le 20, 3) := dd_all DX6_takeBehind_0_ok 28 rfl
theorem dX6_takeBehind_53 : decode cX6_takeBehind 53 = .ok (.aload_n 0, 1) := dd_all DX6_takeBehind_0_ok 29 rfl
theorem dX6_takeBehind_54 : decode cX6_takeBehind 54 = .ok (.dup, 1) := dd_all DX6_takeBehind_0_ok 30 rfl
theorem dX6_takeBehind_55 : decode cX6_takeBehind 55 = .ok (.getfield 15, 3) := dd_all DX6_takeBehind_0_ok 31 rfl
theorem dX6_takeBehind_58 : decode cX6_takeBehind 58 = .ok (.iconst 1, 1) := dd_all DX6_takeBehind_0_ok 32 rfl
theorem dX6_takeBehind_59 : decode cX6_takeBehind 59 = .ok (.isub, 1) := dd_all DX6_takeBehind_0_ok 33 rfl
theorem dX6_takeBehind_60 : decode cX6_takeBehind 60 = .ok (.putfield 15, 3) := dd_all DX6_takeBehind_0_ok 34 rfl
theorem dX6_takeBehind_63 : decode cX6_takeBehind 63 = .ok (.aload_n 0, 1) := dd_all DX6_takeBehind_0_ok 35 rfl
theorem dX6_takeBehind_64 : decode cX6_takeBehind 64 = .ok (.iconst 1, 1) := dd_all DX6_takeBehind_0_ok 36 rfl
theorem dX6_takeBehind_65 : decode cX6_takeBehind 65 = .ok (.putfield 11, 3) := dd_all DX6_takeBehind_0_ok 37 rfl
theorem dX6_takeBehind_68 : decode cX6_takeBehind 68 = .ok (.iconst 0, 1) := dd_all DX6_takeBehind_0_ok 38 rfl
theorem dX6_takeBehind_69 : decode cX6_takeBehind 69 = .ok (.ireturn, 1) := dd_all DX6_takeBehind_0_ok 39 rfl
def DX6_takeBehind_40 : List (Nat × Instr × Nat) := [(70, .iconst 1, 1), (71, .ireturn, 1)]
theorem DX6_takeBehind_40_ok : ∀ q ∈ DX6_takeBehind_40, decode cX6_takeBehind q.1 = .ok (q.2.1, q.2.2) := by decide +kernel
theorem dX6_takeBehind_70 : decode cX6_takeBehind 70 = .ok (.iconst 1, 1) := dd_all DX6_takeBehind_40_ok 0 rfl
theorem dX6_takeBehind_71 : decode cX6_takeBehind 71 = .ok (.ireturn, 1) := dd_all DX6_takeBehind_40_ok 1 rfl
def DX7_init_0 : List (Nat × Instr × Nat) := [(0, .aload_n 0, 1), (1, .invokespecial 1, 3), (4, .aload_n 0, 1), (5, .new 7, 3), (8, .dup, 1), (9, .invokespecial 9, 3), (12, .putfield 10, 3), (15, .aload_n 0, 1), (16, .new 7, 3), (19, .dup, 1), (20, .invokespecial 9, 3), (23, .putfield 16, 3), (26, .aload_n 0, 1), (27, .new 19, 3), (30, .dup, 1), (31, .invokespecial 21, 3), (34, .putfield 22, 3), (37, .aload_n 0, 1), (38, .new 26, 3), (41, .dup, 1), (42, .ldc 28, 2), (44, .invokespecial 30, 3), (47, .putfield 33, 3), (50, .aload_n 0, 1), (51, .new 37, 3), (54, .dup, 1), (55, .invokespecial 39, 3), (58, .putfield 40, 3), (61, .aload_n 0, 1), (62, .new 44, 3), (65, .dup, 1), (66, .invokespecial 46, 3), (69, .putfield 47, 3), (72, .aload_n 0, 1), (73, .iconst 4, 1), (74, .newarray .int, 2), (76, .putfield 51, 3), (79, .return_, 1)]
theorem DX7_init_0_ok : ∀ q ∈ DX7_init_0, decode cX7_init q.1 = .ok (q.2.1, q.2.2) := by decide +kernel
theorem dX7_init_0 : decode cX7_init 0 = .ok (.aload_n 0, 1) := dd_all DX7_init_0_ok 0 rfl
theorem dX7_init_1 : decode cX7_init 1 = .ok (.invokespecial 1, 3) := dd_all DX7_init_0_ok 1 rfl
theorem dX7_init_4 : decode cX7_init 4 = .ok (.aload_n 0, 1) := dd_all DX7_init_0_ok 2 rfl
theorem dX7_init_5 : decode cX7_init 5 = .ok (.new 7, 3) := dd_all DX7_init_0_ok 3 rfl
theorem dX7_init_8 : decode cX7_init 8 = .ok (.dup, 1) := dd_all DX7_init_0_ok 4 rfl
theorem dX7_init_9 : decode cX7_init 9 = .ok (.invokespecial 9, 3) := dd_all DX7_init_0_ok 5 rfl
theorem dX7_init_12 : decode cX7_init 12 = .ok (.putfield 10, 3) := dd_all DX7_init_0_ok 6 rfl
theorem dX7_init_15 : decode cX7_init 15 = .ok (.aload_n 0, 1) := dd_all DX7_init_0_ok 7 rfl
theorem dX7_init_16 : decode cX7_init 16 = .ok (.new 7, 3) := dd_all DX7_init_0_ok 8 rfl
theorem dX7_init_19 : decode cX7_init 19 = .ok (.dup, 1) := dd_all DX7_init_0_ok 9 rfl
theorem dX7_init_20 : decode cX7_init 20 = .ok (.invokespecial 9, 3) := dd_all DX7_init_0_ok 10 rfl
theorem dX7_init_23 : decode cX7_init 23 = .ok (.putfield 16, 3) := dd_all DX7_init_0_ok 11 rfl
theorem dX7_init_26 : decode cX7_init 26 = .ok (.aload_n 0, 1) := dd_all DX7_init_0_ok 12 rfl
theorem dX7_init_27 : decode cX7_init 27 = .ok (.new 19, 3) := dd_all DX7_init_0_ok 13 rfl
theorem dX7_init_30 : decode cX7_init 30 = .ok (.dup, 1) := dd_all DX7_init_0_ok 14 rfl
theorem dX7_init_31 : decode cX7_init 31 = .ok (.invokespecial 21, 3) := dd_all DX7_init_0_ok 15 rfl
theorem dX7_init_34 : decode cX7_init 34 = .ok (.putfield 22, 3) := dd_all DX7_init_0_ok 16 rfl
theorem dX7_init_37 : decode cX7_init 37 = .ok (.aload_n 0, 1) := dd_all DX7_init_0_ok 17 rfl
theorem dX7_init_38 : decode cX7_init 38 = .ok (.new 26, 3) := dd_all DX7_init_0_ok 18 rfl
theorem dX7_init_41 : decode cX7_init 41 = .ok (.dup, 1) := dd_all DX7_init_0_ok 19 rfl
theorem dX7_init_42 : decode cX7_init 42 = .ok (.ldc 28, 2) := dd_all DX7_init_0_ok 20 rfl
theorem dX7_init_44 : decode cX7_init 44 = .ok (.invokespecial 30, 3) := dd_all DX7_init_0_ok 21 rfl
theorem dX7_init_47 : decode cX7_init 47 = .ok (.putfield 33, 3) := dd_all DX7_init_0_ok 22 rfl
theorem dX7_init_50 : decode cX7_init 50 = .ok (.aload_n 0, 1) := dd_all DX7_init_0_ok 23 rfl
theorem dX7_init_51 : decode cX7_init 51 = .ok (.new 37, 3) := dd_all DX7_init_0_ok 24 rfl
theorem dX7_init_54 : decode cX7_init 54 = .ok (.dup, 1) := dd_all DX7_init_0_ok 25 rfl
theorem dX7_init_55 : decode cX7_init 55 = .ok (.invokespecial 39, 3) := dd_all DX7_init_0_ok 26 rfl
theorem dX7_init_58 : decode cX7_init 58 = .ok (.putfield 40, 3) := dd_all DX7_init_0_ok 27 rfl
theorem dX7_init_61 : decode cX7_init 61 = .ok (.aload_n 0, 1) := dd_all DX7_init_0_ok 28 rfl
theorem dX7_init_62 : decode cX7_init 62 = .ok (.new 44, 3) := dd_all DX7_init_0_ok 29 rfl
theorem dX7_init_65 : decode cX7_init 65 = .ok (.dup, 1) := dd_all DX7_init_0_ok 30 rfl
theorem dX7_init_66 : decode cX7_init 66 = .ok (.invokespecial 46, 3) := dd_all DX7_init_0_ok 31 rfl
theorem dX7_init_69 : decode cX7_init 69 = .ok (.putfield 47, 3) := dd_all DX7_init_0_ok 32 rfl
theorem dX7_init_72 : decode cX7_init 72 = .ok (.aload_n 0, 1) := dd_all DX7_init_0_ok 33 rfl
theorem dX7_init_73 : decode cX7_init 73 = .ok (.iconst 4, 1) := dd_all DX7_init_0_ok 34 rfl
theorem dX7_init_74 : decode cX7_init 74 = .ok (.newarray .int, 2) := dd_all DX7_init_0_ok 35 rfl
theorem dX7_init_76 : decode cX7_init 76 = .ok (.putfield 51, 3) := dd_all DX7_init_0_ok 36 rfl
theorem dX7_init_79 : decode cX7_init 79 = .ok (.return_, 1) := dd_all DX7_init_0_ok 37 rfl
def DX7_knock_0 : List (Nat × Instr × Nat) := [(0, .iload_n 1, 1), (1, .invokestatic 55, 3), (4, .ifCond .eq 21, 3), (7, .iload_n 2, 1), (8, .invokestatic 59, 3), (11, .ifCond .eq 14, 3), (14, .iload_n 3, 1), (15, .iconst 1, 1), (16, .if_icmp .lt 9, 3), (19, .iload_n 3, 1), (20, .bipush 127, 2), (22, .if_icmp .le 5, 3), (25, .iconst (-1), 1), (26, .ireturn, 1), (27, .aload_n 0, 1), (28, .getfield 10, 3), (31, .iload_n 1, 1), (32, .iload_n 2, 1), (33, .invokevirtual 62, 3), (36, .istore 4, 2), (38, .iload 4, 2), (40, .iconst (-1), 1), (41, .if_icmp .ne 16, 3), (44, .aload_n 0, 1), (45, .getfield 10, 3), (48, .invokevirtual 66, 3), (51, .ifCond .ne 6, 3), (54, .bipush (-3), 2), (56, .ireturn, 1), (57, .aload_n 0, 1), (58, .getfield 22, 3), (61, .aload_n 0, 1), (62, .getfield 10, 3), (65, .invokevirtual 70, 3), (68, .iload 4, 2), (70, .iconst (-1), 1), (71, .if_icmp .ne 14, 3), (74, .aload_n 0, 1), (75, .getfield 10, 3), (78, .iload_n 1, 1)]
theorem DX7_knock_0_ok : ∀ q ∈ DX7_knock_0, decode cX7_knock q.1 = .ok (q.2.1, q.2.2) := by decide +kernel
theorem dX7_knock_0 : decode cX7_knock 0 = .ok (.iload_n 1, 1) := dd_all DX7_knock_0_ok 0 rfl
theorem dX7_knock_1 : decode cX7_knock 1 = .ok (.invokestatic 55, 3) := dd_all DX7_knock_0_ok 1 rfl
theorem dX7_knock_4 : decode cX7_knock 4 = .ok (.ifCond .eq 21, 3) := dd_all DX7_knock_0_ok 2 rfl
theorem dX7_knock_7 : decode cX7_knock 7 = .ok (.iload_n 2, 1) := dd_all DX7_knock_0_ok 3 rfl
theorem dX7_knock_8 : decode cX7_knock 8 = .ok (.invokestatic 59, 3) := dd_all DX7_knock_0_ok 4 rfl
theorem dX7_knock_11 : decode cX7_knock 11 = .ok (.ifCond .eq 14, 3) := dd_all DX7_knock_0_ok 5 rfl
theorem dX7_knock_14 : decode cX7_knock 14 = .ok (.iload_n 3, 1) := dd_all DX7_knock_0_ok 6 rfl
theorem dX7_knock_15 : decode cX7_knock 15 = .ok (.iconst 1, 1) := dd_all DX7_knock_0_ok 7 rfl
theorem dX7_knock_16 : decode cX7_knock 16 = .ok (.if_icmp .lt 9, 3) := dd_all DX7_knock_0_ok 8 rfl
theorem dX7_knock_19 : decode cX7_knock 19 = .ok (.iload_n 3, 1) := dd_all DX7_knock_0_ok 9 rfl
theorem dX7_knock_20 : decode cX7_knock 20 = .ok (.bipush 127, 2) := dd_all DX7_knock_0_ok 10 rfl
theorem dX7_knock_22 : decode cX7_knock 22 = .ok (.if_icmp .le 5, 3) := dd_all DX7_knock_0_ok 11 rfl
theorem dX7_knock_25 : decode cX7_knock 25 = .ok (.iconst (-1), 1) := dd_all DX7_knock_0_ok 12 rfl
theorem dX7_knock_26 : decode cX7_knock 26 = .ok (.ireturn, 1) := dd_all DX7_knock_0_ok 13 rfl
theorem dX7_knock_27 : decode cX7_knock 27 = .ok (.aload_n 0, 1) := dd_all DX7_knock_0_ok 14 rfl
theorem dX7_knock_28 : decode cX7_knock 28 = .ok (.getfield 10, 3) := dd_all DX7_knock_0_ok 15 rfl
theorem dX7_knock_31 : decode cX7_knock 31 = .ok (.iload_n 1, 1) := dd_all DX7_knock_0_ok 16 rfl
theorem dX7_knock_32 : decode cX7_knock 32 = .ok (.iload_n 2, 1) := dd_all DX7_knock_0_ok 17 rfl
theorem dX7_knock_33 : decode cX7_knock 33 = .ok (.invokevirtual 62, 3) := dd_all DX7_knock_0_ok 18 rfl
theorem dX7_knock_36 : decode cX7_knock 36 = .ok (.istore 4, 2) := dd_all DX7_knock_0_ok 19 rfl
theorem dX7_knock_38 : decode cX7_knock 38 = .ok (.iload 4, 2) := dd_all DX7_knock_0_ok 20 rfl
theorem dX7_knock_40 : decode cX7_knock 40 = .ok (.iconst (-1), 1) := dd_all DX7_knock_0_ok 21 rfl
theorem dX7_knock_41 : decode cX7_knock 41 = .ok (.if_icmp .ne 16, 3) := dd_all DX7_knock_0_ok 22 rfl
theorem dX7_knock_44 : decode cX7_knock 44 = .ok (.aload_n 0, 1) := dd_all DX7_knock_0_ok 23 rfl
theorem dX7_knock_45 : decode cX7_knock 45 = .ok (.getfield 10, 3) := dd_all DX7_knock_0_ok 24 rfl
theorem dX7_knock_48 : decode cX7_knock 48 = .ok (.invokevirtual 66, 3) := dd_all DX7_knock_0_ok 25 rfl
theorem dX7_knock_51 : decode cX7_knock 51 = .ok (.ifCond .ne 6, 3) := dd_all DX7_knock_0_ok 26 rfl
theorem dX7_knock_54 : decode cX7_knock 54 = .ok (.bipush (-3), 2) := dd_all DX7_knock_0_ok 27 rfl
theorem dX7_knock_56 : decode cX7_knock 56 = .ok (.ireturn, 1) := dd_all DX7_knock_0_ok 28 rfl
theorem dX7_knock_57 : decode cX7_knock 57 = .ok (.aload_n 0, 1) := dd_all DX7_knock_0_ok 29 rfl
theorem dX7_knock_58 : decode cX7_knock 58 = .ok (.getfield 22, 3) := dd_all DX7_knock_0_ok 30 rfl
theorem dX7_knock_61 : decode cX7_knock 61 = .ok (.aload_n 0, 1) := dd_all DX7_knock_0_ok 31 rfl
theorem dX7_knock_62 : decode cX7_knock 62 = .ok (.getfield 10, 3) := dd_all DX7_knock_0_ok 32 rfl
theorem dX7_knock_65 : decode cX7_knock 65 = .ok (.invokevirtual 70, 3) := dd_all DX7_knock_0_ok 33 rfl
theorem dX7_knock_68 : decode cX7_knock 68 = .ok (.iload 4, 2) := dd_all DX7_knock_0_ok 34 rfl
theorem dX7_knock_70 : decode cX7_knock 70 = .ok (.iconst (-1), 1) := dd_all DX7_knock_0_ok 35 rfl
theorem dX7_knock_71 : decode cX7_knock 71 = .ok (.if_icmp .ne 14, 3) := dd_all DX7_knock_0_ok 36 rfl
theorem dX7_knock_74 : decode cX7_knock 74 = .ok (.aload_n 0, 1) := dd_all DX7_knock_0_ok 37 rfl
theorem dX7_knock_75 : decode cX7_knock 75 = .ok (.getfield 10, 3) := dd_all DX7_knock_0_ok 38 rfl
theorem dX7_knock_78 : decode cX7_knock 78 = .ok (.iload_n 1, 1) := dd_all DX7_knock_0_ok 39 rfl
def DX7_knock_40 : List (Nat × Instr × Nat) := [(79, .iload_n 2, 1), (80, .iload_n 3, 1), (81, .invokevirtual 74, 3), (84, .ireturn, 1), (85, .aload_n 0, 1), (86, .getfield 10, 3), (89, .iload 4, 2), (91, .iload_n 3, 1), (92, .invokevirtual 78, 3), (95, .iload 4, 2), (97, .ireturn, 1)]
theorem DX7_knock_40_ok : ∀ q ∈ DX7_knock_40, decode cX7_knock q.1 = .ok (q.2.1, q.2.2) := by decide +kernel
theorem dX7_knock_79 : decode cX7_knock 79 = .ok (.iload_n 2, 1) := dd_all DX7_knock_40_ok 0 rfl
theorem dX7_knock_80 : decode cX7_knock 80 = .ok (.iload_n 3, 1) := dd_all DX7_knock_40_ok 1 rfl
theorem dX7_knock_81 : decode cX7_knock 81 = .ok (.invokevirtual 74, 3) := dd_all DX7_knock_40_ok 2 rfl
theorem dX7_knock_84 : decode cX7_knock 84 = .ok (.ireturn, 1) := dd_all DX7_knock_40_ok 3 rfl
theorem dX7_knock_85 : decode cX7_knock 85 = .ok (.aload_n 0, 1) := dd_all DX7_knock_40_ok 4 rfl
theorem dX7_knock_86 : decode cX7_knock 86 = .ok (.getfield 10, 3) := dd_all DX7_knock_40_ok 5 rfl
theorem dX7_knock_89 : decode cX7_knock 89 = .ok (.iload 4, 2) := dd_all DX7_knock_40_ok 6 rfl
theorem dX7_knock_91 : decode cX7_knock 91 = .ok (.iload_n 3, 1) := dd_all DX7_knock_40_ok 7 rfl
theorem dX7_knock_92 : decode cX7_knock 92 = .ok (.invokevirtual 78, 3) := dd_all DX7_knock_40_ok 8 rfl
theorem dX7_knock_95 : decode cX7_knock 95 = .ok (.iload 4, 2) := dd_all DX7_knock_40_ok 9 rfl
theorem dX7_knock_97 : decode cX7_knock 97 = .ok (.ireturn, 1) := dd_all DX7_knock_40_ok 10 rfl
def DX7_release_0 : List (Nat × Instr × Nat) := [(0, .iload_n 1, 1), (1, .invokestatic 55, 3), (4, .ifCond .eq 10, 3), (7, .iload_n 2, 1), (8, .invokestatic 59, 3), (11, .ifCond .ne 5, 3), (14, .iconst (-1), 1), (15, .ireturn, 1), (16, .aload_n 0, 1), (17, .getfield 10, 3), (20, .iload_n 1, 1), (21, .iload_n 2, 1), (22, .invokevirtual 82, 3), (25, .istore_n 3, 1), (26, .iload_n 3, 1), (27, .iconst (-1), 1), (28, .if_icmp .ne 13, 3), (31, .aload_n 0, 1), (32, .getfield 10, 3), (35, .iload_n 1, 1), (36, .iload_n 2, 1), (37, .invokevirtual 85, 3), (40, .istore_n 3, 1), (41, .iload_n 3, 1), (42, .iconst (-1), 1), (43, .if_icmp .ne 6, 3), (46, .bipush (-2), 2), (48, .ireturn, 1), (49, .aload_n 0, 1), (50, .getfield 22, 3), (53, .aload_n 0, 1), (54, .getfield 10, 3), (57, .invokevirtual 70, 3), (60, .aload_n 0, 1), (61, .getfield 10, 3), (64, .iload_n 3, 1), (65, .invokevirtual 88, 3), (68, .iload_n 3, 1), (69, .ireturn, 1)]
theorem DX7_release_0_ok : ∀ q ∈ DX7_release_0, decode cX7_release q.1 = .ok (q.2.1, q.2.2) := by decide +kernel
theorem dX7_release_0 : decode cX7_release 0 = .ok (.iload_n 1, 1) := dd_all DX7_release_0_ok 0 rfl
theorem dX7_release_1 : decode cX7_release 1 = .ok (.invokestatic 55, 3) := dd_all DX7_release_0_ok 1 rfl
theorem dX7_release_4 : decode cX7_release 4 = .ok (.ifCond .eq 10, 3) := dd_all DX7_release_0_ok 2 rfl
theorem dX7_release_7 : decode cX7_release 7 = .ok (.iload_n 2, 1) := dd_all DX7_release_0_ok 3 rfl
theorem dX7_release_8 : decode cX7_release 8 = .ok (.invokestatic 59, 3) := dd_all DX7_release_0_ok 4 rfl
theorem dX7_release_11 : decode cX7_release 11 = .ok (.ifCond .ne 5, 3) := dd_all DX7_release_0_ok 5 rfl
theorem dX7_release_14 : decode cX7_release 14 = .ok (.iconst (-1), 1) := dd_all DX7_release_0_ok 6 rfl
theorem dX7_release_15 : decode cX7_release 15 = .ok (.ireturn, 1) := dd_all DX7_release_0_ok 7 rfl
theorem dX7_release_16 : decode cX7_release 16 = .ok (.aload_n 0, 1) := dd_all DX7_release_0_ok 8 rfl
theorem dX7_release_17 : decode cX7_release 17 = .ok (.getfield 10, 3) := dd_all DX7_release_0_ok 9 rfl
theorem dX7_release_20 : decode cX7_release 20 = .ok (.iload_n 1, 1) := dd_all DX7_release_0_ok 10 rfl
theorem dX7_release_21 : decode cX7_release 21 = .ok (.iload_n 2, 1) := dd_all DX7_release_0_ok 11 rfl
theorem dX7_release_22 : decode cX7_release 22 = .ok (.invokevirtual 82, 3) := dd_all DX7_release_0_ok 12 rfl
theorem dX7_release_25 : decode cX7_release 25 = .ok (.istore_n 3, 1) := dd_all DX7_release_0_ok 13 rfl
theorem dX7_release_26 : decode cX7_release 26 = .ok (.iload_n 3, 1) := dd_all DX7_release_0_ok 14 rfl
theorem dX7_release_27 : decode cX7_release 27 = .ok (.iconst (-1), 1) := dd_all DX7_release_0_ok 15 rfl
theorem dX7_release_28 : decode cX7_release 28 = .ok (.if_icmp .ne 13, 3) := dd_all DX7_release_0_ok 16 rfl
theorem dX7_release_31 : decode cX7_release 31 = .ok (.aload_n 0, 1) := dd_all DX7_release_0_ok 17 rfl
theorem dX7_release_32 : decode cX7_release 32 = .ok (.getfield 10, 3) := dd_all DX7_release_0_ok 18 rfl
theorem dX7_release_35 : decode cX7_release 35 = .ok (.iload_n 1, 1) := dd_all DX7_release_0_ok 19 rfl
theorem dX7_release_36 : decode cX7_release 36 = .ok (.iload_n 2, 1) := dd_all DX7_release_0_ok 20 rfl
theorem dX7_release_37 : decode cX7_release 37 = .ok (.invokevirtual 85, 3) := dd_all DX7_release_0_ok 21 rfl
theorem dX7_release_40 : decode cX7_release 40 = .ok (.istore_n 3, 1) := dd_all DX7_release_0_ok 22 rfl
theorem dX7_release_41 : decode cX7_release 41 = .ok (.iload_n 3, 1) := dd_all DX7_release_0_ok 23 rfl
theorem dX7_release_42 : decode cX7_release 42 = .ok (.iconst (-1), 1) := dd_all DX7_release_0_ok 24 rfl
theorem dX7_release_43 : decode cX7_release 43 = .ok (.if_icmp .ne 6, 3) := dd_all DX7_release_0_ok 25 rfl
theorem dX7_release_46 : decode cX7_release 46 = .ok (.bipush (-2), 2) := dd_all DX7_release_0_ok 26 rfl
theorem dX7_release_48 : decode cX7_release 48 = .ok (.ireturn, 1) := dd_all DX7_release_0_ok 27 rfl
theorem dX7_release_49 : decode cX7_release 49 = .ok (.aload_n 0, 1) := dd_all DX7_release_0_ok 28 rfl
theorem dX7_release_50 : decode cX7_release 50 = .ok (.getfield 22, 3) := dd_all DX7_release_0_ok 29 rfl
theorem dX7_release_53 : decode cX7_release 53 = .ok (.aload_n 0, 1) := dd_all DX7_release_0_ok 30 rfl
theorem dX7_release_54 : decode cX7_release 54 = .ok (.getfield 10, 3) := dd_all DX7_release_0_ok 31 rfl
theorem dX7_release_57 : decode cX7_release 57 = .ok (.invokevirtual 70, 3) := dd_all DX7_release_0_ok 32 rfl
theorem dX7_release_60 : decode cX7_release 60 = .ok (.aload_n 0, 1) := dd_all DX7_release_0_ok 33 rfl
theorem dX7_release_61 : decode cX7_release 61 = .ok (.getfield 10, 3) := dd_all DX7_release_0_ok 34 rfl
theorem dX7_release_64 : decode cX7_release 64 = .ok (.iload_n 3, 1) := dd_all DX7_release_0_ok 35 rfl
theorem dX7_release_65 : decode cX7_release 65 = .ok (.invokevirtual 88, 3) := dd_all DX7_release_0_ok 36 rfl
theorem dX7_release_68 : decode cX7_release 68 = .ok (.iload_n 3, 1) := dd_all DX7_release_0_ok 37 rfl
theorem dX7_release_69 : decode cX7_release 69 = .ok (.ireturn, 1) := dd_all DX7_release_0_ok 38 rfl
def DX7_pedal_0 : List (Nat × Instr × Nat) := [(0, .iload_n 1, 1), (1, .ifCond .lt 8, 3), (4, .iload_n 1, 1), (5, .iconst 1, 1), (6, .if_icmp .le 5, 3), (9, .iconst (-1), 1), (10, .ireturn, 1), (11, .iload_n 1, 1), (12, .aload_n 0, 1), (13, .getfield 10, 3), (16, .getfield 92, 3), (19, .if_icmp .ne 6, 3), (22, .bipush (-2), 2), (24, .ireturn, 1), (25, .aload_n 0, 1), (26, .getfield 22, 3), (29, .aload_n 0, 1), (30, .getfield 10, 3), (33, .invokevirtual 70, 3), (36, .aload_n 0, 1), (37, .getfield 10, 3), (40, .iload_n 1, 1), (41, .invokevirtual 96, 3), (44, .ireturn, 1)]
theorem DX7_pedal_0_ok : ∀ q ∈ DX7_pedal_0, decode cX7_pedal q.1 = .ok (q.2.1, q.2.2) := by decide +kernel
theorem dX7_pedal_0 : decode cX7_pedal 0 = .ok (.iload_n 1, 1) := dd_all DX7_pedal_0_ok 0 rfl
theorem dX7_pedal_1 : decode cX7_pedal 1 = .ok (.ifCond .lt 8, 3) := dd_all DX7_pedal_0_ok 1 rfl
theorem dX7_pedal_4 : decode cX7_pedal 4 = .ok (.iload_n 1, 1) := dd_all DX7_pedal_0_ok 2 rfl
theorem dX7_pedal_5 : decode cX7_pedal 5 = .ok (.iconst 1, 1) := dd_all DX7_pedal_0_ok 3 rfl
theorem dX7_pedal_6 : decode cX7_pedal 6 = .ok (.if_icmp .le 5, 3) := dd_all DX7_pedal_0_ok 4 rfl
theorem dX7_pedal_9 : decode cX7_pedal 9 = .ok (.iconst (-1), 1) := dd_all DX7_pedal_0_ok 5 rfl
theorem dX7_pedal_10 : decode cX7_pedal 10 = .ok (.ireturn, 1) := dd_all DX7_pedal_0_ok 6 rfl
theorem dX7_pedal_11 : decode cX7_pedal 11 = .ok (.iload_n 1, 1) := dd_all DX7_pedal_0_ok 7 rfl
theorem dX7_pedal_12 : decode cX7_pedal 12 = .ok (.aload_n 0, 1) := dd_all DX7_pedal_0_ok 8 rfl
theorem dX7_pedal_13 : decode cX7_pedal 13 = .ok (.getfield 10, 3) := dd_all DX7_pedal_0_ok 9 rfl
theorem dX7_pedal_16 : decode cX7_pedal 16 = .ok (.getfield 92, 3) := dd_all DX7_pedal_0_ok 10 rfl
theorem dX7_pedal_19 : decode cX7_pedal 19 = .ok (.if_icmp .ne 6, 3) := dd_all DX7_pedal_0_ok 11 rfl
theorem dX7_pedal_22 : decode cX7_pedal 22 = .ok (.bipush (-2), 2) := dd_all DX7_pedal_0_ok 12 rfl
theorem dX7_pedal_24 : decode cX7_pedal 24 = .ok (.ireturn, 1) := dd_all DX7_pedal_0_ok 13 rfl
theorem dX7_pedal_25 : decode cX7_pedal 25 = .ok (.aload_n 0, 1) := dd_all DX7_pedal_0_ok 14 rfl
theorem dX7_pedal_26 : decode cX7_pedal 26 = .ok (.getfield 22, 3) := dd_all DX7_pedal_0_ok 15 rfl
theorem dX7_pedal_29 : decode cX7_pedal 29 = .ok (.aload_n 0, 1) := dd_all DX7_pedal_0_ok 16 rfl
theorem dX7_pedal_30 : decode cX7_pedal 30 = .ok (.getfield 10, 3) := dd_all DX7_pedal_0_ok 17 rfl
theorem dX7_pedal_33 : decode cX7_pedal 33 = .ok (.invokevirtual 70, 3) := dd_all DX7_pedal_0_ok 18 rfl
theorem dX7_pedal_36 : decode cX7_pedal 36 = .ok (.aload_n 0, 1) := dd_all DX7_pedal_0_ok 19 rfl
theorem dX7_pedal_37 : decode cX7_pedal 37 = .ok (.getfield 10, 3) := dd_all DX7_pedal_0_ok 20 rfl
theorem dX7_pedal_40 : decode cX7_pedal 40 = .ok (.iload_n 1, 1) := dd_all DX7_pedal_0_ok 21 rfl
theorem dX7_pedal_41 : decode cX7_pedal 41 = .ok (.invokevirtual 96, 3) := dd_all DX7_pedal_0_ok 22 rfl
theorem dX7_pedal_44 : decode cX7_pedal 44 = .ok (.ireturn, 1) := dd_all DX7_pedal_0_ok 23 rfl
def DX7_tick_0 : List (Nat × Instr × Nat) := [(0, .iload_n 1, 1), (1, .iconst 1, 1), (2, .if_icmp .lt 9, 3), (5, .iload_n 1, 1), (6, .bipush 100, 2), (8, .if_icmp .le 5, 3), (11, .iconst (-1), 1), (12, .ireturn, 1), (13, .aload_n 0, 1), (14, .getfield 10, 3), (17, .getfield 100, 3), (20, .iload_n 1, 1), (21, .iadd, 1), (22, .ldc 103, 2), (24, .if_icmp .le 6, 3), (27, .bipush (-3), 2), (29, .ireturn, 1), (30, .aload_n 0, 1), (31, .getfield 22, 3), (34, .aload_n 0, 1), (35, .getfield 10, 3), (38, .invokevirtual 70, 3), (41, .iconst 0, 1), (42, .istore_n 2, 1), (43, .iload_n 2, 1), (44, .iload_n 1, 1), (45, .if_icmp .ge 16, 3), (48, .aload_n 0, 1), (49, .getfield 10, 3), (52, .invokevirtual 104, 3), (55, .iinc 2 1, 3), (58, .goto (-15), 3), (61, .aload_n 0, 1), (62, .getfield 10, 3), (65, .invokevirtual 107, 3), (68, .ireturn, 1)]
theorem DX7_tick_0_ok : ∀ q ∈ DX7_tick_0, decode cX7_tick q.1 = .ok (q.2.1, q.2.2) := by decide +kernel
theorem dX7_tick_0 : decode cX7_tick 0 = .ok (.iload_n 1, 1) := dd_all DX7_tick_0_ok 0 rfl
theorem dX7_tick_1 : decode cX7_tick 1 = .ok (.iconst 1, 1) := dd_all DX7_tick_0_ok 1 rfl
theorem dX7_tick_2 : decode cX7_tick 2 = .ok (.if_icmp .lt 9, 3) := dd_all DX7_tick_0_ok 2 rfl
theorem dX7_tick_5 : decode cX7_tick 5 = .ok (.iload_n 1, 1) := dd_all DX7_tick_0_ok 3 rfl
theorem dX7_tick_6 : decode cX7_tick 6 = .ok (.bipush 100, 2) := dd_all DX7_tick_0_ok 4 rfl
theorem dX7_tick_8 : decode cX7_tick 8 = .ok (.if_icmp .le 5, 3) := dd_all DX7_tick_0_ok 5 rfl
theorem dX7_tick_11 : decode cX7_tick 11 = .ok (.iconst (-1), 1) := dd_all DX7_tick_0_ok 6 rfl
theorem dX7_tick_12 : decode cX7_tick 12 = .ok (.ireturn, 1) := dd_all DX7_tick_0_ok 7 rfl
theorem dX7_tick_13 : decode cX7_tick 13 = .ok (.aload_n 0, 1) := dd_all DX7_tick_0_ok 8 rfl
theorem dX7_tick_14 : decode cX7_tick 14 = .ok (.getfield 10, 3) := dd_all DX7_tick_0_ok 9 rfl
theorem dX7_tick_17 : decode cX7_tick 17 = .ok (.getfield 100, 3) := dd_all DX7_tick_0_ok 10 rfl
theorem dX7_tick_20 : decode cX7_tick 20 = .ok (.iload_n 1, 1) := dd_all DX7_tick_0_ok 11 rfl
theorem dX7_tick_21 : decode cX7_tick 21 = .ok (.iadd, 1) := dd_all DX7_tick_0_ok 12 rfl
theorem dX7_tick_22 : decode cX7_tick 22 = .ok (.ldc 103, 2) := dd_all DX7_tick_0_ok 13 rfl
theorem dX7_tick_24 : decode cX7_tick 24 = .ok (.if_icmp .le 6, 3) := dd_all DX7_tick_0_ok 14 rfl
theorem dX7_tick_27 : decode cX7_tick 27 = .ok (.bipush (-3), 2) := dd_all DX7_tick_0_ok 15 rfl
theorem dX7_tick_29 : decode cX7_tick 29 = .ok (.ireturn, 1) := dd_all DX7_tick_0_ok 16 rfl
theorem dX7_tick_30 : decode cX7_tick 30 = .ok (.aload_n 0, 1) := dd_all DX7_tick_0_ok 17 rfl
theorem dX7_tick_31 : decode cX7_tick 31 = .ok (.getfield 22, 3) := dd_all DX7_tick_0_ok 18 rfl
theorem dX7_tick_34 : decode cX7_tick 34 = .ok (.aload_n 0, 1) := dd_all DX7_tick_0_ok 19 rfl
theorem dX7_tick_35 : decode cX7_tick 35 = .ok (.getfield 10, 3) := dd_all DX7_tick_0_ok 20 rfl
theorem dX7_tick_38 : decode cX7_tick 38 = .ok (.invokevirtual 70, 3) := dd_all DX7_tick_0_ok 21 rfl
theorem dX7_tick_41 : decode cX7_tick 41 = .ok (.iconst 0, 1) := dd_all DX7_tick_0_ok 22 rfl
theorem dX7_tick_42 : decode cX7_tick 42 = .ok (.istore_n 2, 1) := dd_all DX7_tick_0_ok 23 rfl
theorem dX7_tick_43 : decode cX7_tick 43 = .ok (.iload_n 2, 1) := dd_all DX7_tick_0_ok 24 rfl
theorem dX7_tick_44 : decode cX7_tick 44 = .ok (.iload_n 1, 1) := dd_all DX7_tick_0_ok 25 rfl
theorem dX7_tick_45 : decode cX7_tick 45 = .ok (.if_icmp .ge 16, 3) := dd_all DX7_tick_0_ok 26 rfl
theorem dX7_tick_48 : decode cX7_tick 48 = .ok (.aload_n 0, 1) := dd_all DX7_tick_0_ok 27 rfl
theorem dX7_tick_49 : decode cX7_tick 49 = .ok (.getfield 10, 3) := dd_all DX7_tick_0_ok 28 rfl
theorem dX7_tick_52 : decode cX7_tick 52 = .ok (.invokevirtual 104, 3) := dd_all DX7_tick_0_ok 29 rfl
theorem dX7_tick_55 : decode cX7_tick 55 = .ok (.iinc 2 1, 3) := dd_all DX7_tick_0_ok 30 rfl
theorem dX7_tick_58 : decode cX7_tick 58 = .ok (.goto (-15), 3) := dd_all DX7_tick_0_ok 31 rfl
theorem dX7_tick_61 : decode cX7_tick 61 = .ok (.aload_n 0, 1) := dd_all DX7_tick_0_ok 32 rfl
theorem dX7_tick_62 : decode cX7_tick 62 = .ok (.getfield 10, 3) := dd_all DX7_tick_0_ok 33 rfl
theorem dX7_tick_65 : decode cX7_tick 65 = .ok (.invokevirtual 107, 3) := dd_all DX7_tick_0_ok 34 rfl
theorem dX7_tick_68 : decode cX7_tick 68 = .ok (.ireturn, 1) := dd_all DX7_tick_0_ok 35 rfl
def DX7_set_0 : List (Nat × Instr × Nat) := [(0, .iload_n 1, 1), (1, .ifCond .lt 30, 3), (4, .iload_n 1, 1), (5, .iconst 3, 1), (6, .if_icmp .ge 25, 3), (9, .iload_n 2, 1), (10, .getstatic 111, 3), (13, .iload_n 1, 1), (14, .invokestatic 114, 3), (17, .if_icmp .lt 14, 3), (20, .iload_n 2, 1), (21, .getstatic 118, 3), (24, .iload_n 1, 1), (25, .invokestatic 114, 3), (28, .if_icmp .le 5, 3), (31, .iconst (-1), 1), (32, .ireturn, 1), (33, .aload_n 0, 1), (34, .getfield 22, 3), (37, .aload_n 0, 1), (38, .getfield 10, 3), (41, .invokevirtual 70, 3), (44, .aload_n 0, 1), (45, .getfield 10, 3), (48, .getfield 121, 3), (51, .iload_n 1, 1), (52, .invokestatic 114, 3), (55, .istore_n 3, 1), (56, .aload_n 0, 1), (57, .getfield 10, 3), (60, .getfield 121, 3), (63, .iload_n 1, 1), (64, .iload_n 2, 1), (65, .invokestatic 124, 3), (68, .iload_n 3, 1), (69, .ireturn, 1)]
theorem DX7_set_0_ok : ∀ q ∈ DX7_set_0, decode cX7_set q.1 = .ok (q.2.1, q.2.2) := by decide +kernel
theorem dX7_set_0 : decode cX7_set 0 = .ok (.iload_n 1, 1) := dd_all DX7_set_0_ok 0 rfl
theorem dX7_set_1 : decode cX7_set 1 = .ok (.ifCond .lt 30, 3) := dd_all DX7_set_0_ok 1 rfl
theorem dX7_set_4 : decode cX7_set 4 = .ok (.iload_n 1, 1) := dd_all DX7_set_0_ok 2 rfl
theorem dX7_set_5 : decode cX7_set 5 = .ok (.iconst 3, 1) := dd_all DX7_set_0_ok 3 rfl
theorem dX7_set_6 : decode cX7_set 6 = .ok (.if_icmp .ge 25, 3) := dd_all DX7_set_0_ok 4 rfl
theorem dX7_set_9 : decode cX7_set 9 = .ok (.iload_n 2, 1) := dd_all DX7_set_0_ok 5 rfl
theorem dX7_set_10 : decode cX7_set 10 = .ok (.getstatic 111, 3) := dd_all DX7_set_0_ok 6 rfl
theorem dX7_set_13 : decode cX7_set 13 = .ok (.iload_n 1, 1) := dd_all DX7_set_0_ok 7 rfl
theorem dX7_set_14 : decode cX7_set 14 = .ok (.invokestatic 114, 3) := dd_all DX7_set_0_ok 8 rfl
theorem dX7_set_17 : decode cX7_set 17 = .ok (.if_icmp .lt 14, 3) := dd_all DX7_set_0_ok 9 rfl
theorem dX7_set_20 : decode cX7_set 20 = .ok (.iload_n 2, 1) := dd_all DX7_set_0_ok 10 rfl
theorem dX7_set_21 : decode cX7_set 21 = .ok (.getstatic 118, 3) := dd_all DX7_set_0_ok 11 rfl
theorem dX7_set_24 : decode cX7_set 24 = .ok (.iload_n 1, 1) := dd_all DX7_set_0_ok 12 rfl
theorem dX7_set_25 : decode cX7_set 25 = .ok (.invokestatic 114, 3) := dd_all DX7_set_0_ok 13 rfl
theorem dX7_set_28 : decode cX7_set 28 = .ok (.if_icmp .le 5, 3) := dd_all DX7_set_0_ok 14 rfl
theorem dX7_set_31 : decode cX7_set 31 = .ok (.iconst (-1), 1) := dd_all DX7_set_0_ok 15 rfl
theorem dX7_set_32 : decode cX7_set 32 = .ok (.ireturn, 1) := dd_all DX7_set_0_ok 16 rfl
theorem dX7_set_33 : decode cX7_set 33 = .ok (.aload_n 0, 1) := dd_all DX7_set_0_ok 17 rfl
theorem dX7_set_34 : decode cX7_set 34 = .ok (.getfield 22, 3) := dd_all DX7_set_0_ok 18 rfl
theorem dX7_set_37 : decode cX7_set 37 = .ok (.aload_n 0, 1) := dd_all DX7_set_0_ok 19 rfl
theorem dX7_set_38 : decode cX7_set 38 = .ok (.getfield 10, 3) := dd_all DX7_set_0_ok 20 rfl
theorem dX7_set_41 : decode cX7_set 41 = .ok (.invokevirtual 70, 3) := dd_all DX7_set_0_ok 21 rfl
theorem dX7_set_44 : decode cX7_set 44 = .ok (.aload_n 0, 1) := dd_all DX7_set_0_ok 22 rfl
theorem dX7_set_45 : decode cX7_set 45 = .ok (.getfield 10, 3) := dd_all DX7_set_0_ok 23 rfl
theorem dX7_set_48 : decode cX7_set 48 = .ok (.getfield 121, 3) := dd_all DX7_set_0_ok 24 rfl
theorem dX7_set_51 : decode cX7_set 51 = .ok (.iload_n 1, 1) := dd_all DX7_set_0_ok 25 rfl
theorem dX7_set_52 : decode cX7_set 52 = .ok (.invokestatic 114, 3) := dd_all DX7_set_0_ok 26 rfl
theorem dX7_set_55 : decode cX7_set 55 = .ok (.istore_n 3, 1) := dd_all DX7_set_0_ok 27 rfl
theorem dX7_set_56 : decode cX7_set 56 = .ok (.aload_n 0, 1) := dd_all DX7_set_0_ok 28 rfl
theorem dX7_set_57 : decode cX7_set 57 = .ok (.getfield 10, 3) := dd_all DX7_set_0_ok 29 rfl
theorem dX7_set_60 : decode cX7_set 60 = .ok (.getfield 121, 3) := dd_all DX7_set_0_ok 30 rfl
theorem dX7_set_63 : decode cX7_set 63 = .ok (.iload_n 1, 1) := dd_all DX7_set_0_ok 31 rfl
theorem dX7_set_64 : decode cX7_set 64 = .ok (.iload_n 2, 1) := dd_all DX7_set_0_ok 32 rfl
theorem dX7_set_65 : decode cX7_set 65 = .ok (.invokestatic 124, 3) := dd_all DX7_set_0_ok 33 rfl
theorem dX7_set_68 : decode cX7_set 68 = .ok (.iload_n 3, 1) := dd_all DX7_set_0_ok 34 rfl
theorem dX7_set_69 : decode cX7_set 69 = .ok (.ireturn, 1) := dd_all DX7_set_0_ok 35 rfl
def DX7_noteOf_0 : List (Nat × Instr × Nat) := [(0, .iload_n 1, 1), (1, .ifCond .lt 17, 3), (4, .iload_n 1, 1), (5, .aload_n 0, 1), (6, .getfield 10, 3), (9, .getfield 128, 3), (12, .getfield 132, 3), (15, .if_icmp .lt 5, 3), (18, .iconst (-1), 1), (19, .ireturn, 1), (20, .iload_n 2, 1), (21, .tableswitch 206 0 7 #[47, 62, 77, 92, 107, 141, 176, 191], 47), (68, .aload_n 0, 1), (69, .getfield 10, 3), (72, .getfield 128, 3), (75, .getfield 137, 3), (78, .iload_n 1, 1), (79, .invokestatic 114, 3), (82, .ireturn, 1), (83, .aload_n 0, 1), (84, .getfield 10, 3), (87, .getfield 128, 3), (90, .getfield 140, 3), (93, .iload_n 1, 1), (94, .invokestatic 114, 3), (97, .ireturn, 1), (98, .aload_n 0, 1), (99, .getfield 10, 3), (102, .getfield 128, 3), (105, .getfield 143, 3), (108, .iload_n 1, 1), (109, .invokestatic 114, 3), (112, .ireturn, 1), (113, .aload_n 0, 1), (114, .getfield 10, 3), (117, .getfield 128, 3), (120, .getfield 146, 3), (123, .iload_n 1, 1), (124, .invokestatic 114, 3), (127, .ireturn, 1)]
theorem DX7_noteOf_0_ok : ∀ q ∈ DX7_noteOf_0, decode cX7_noteOf q.1 = .ok (q.2.1, q.2.2) := by decide +kernel
theorem dX7_noteOf_0 : decode cX7_noteOf 0 = .ok (.iload_n 1, 1) := dd_all DX7_noteOf_0_ok 0 rfl
theorem dX7_noteOf_1 : decode cX7_noteOf 1 = .ok (.ifCond .lt 17, 3) := dd_all DX7_noteOf_0_ok 1 rfl
theorem dX7_noteOf_4 : decode cX7_noteOf 4 = .ok (.iload_n 1, 1) := dd_all DX7_noteOf_0_ok 2 rfl
theorem dX7_noteOf_5 : decode cX7_noteOf 5 = .ok (.aload_n 0, 1) := dd_all DX7_noteOf_0_ok 3 rfl
theorem dX7_noteOf_6 : decode cX7_noteOf 6 = .ok (.getfield 10, 3) := dd_all DX7_noteOf_0_ok 4 rfl
theorem dX7_noteOf_9 : decode cX7_noteOf 9 = .ok (.getfield 128, 3) := dd_all DX7_noteOf_0_ok 5 rfl
theorem dX7_noteOf_12 : decode cX7_noteOf 12 = .ok (.getfield 132, 3) := dd_all DX7_noteOf_0_ok 6 rfl
theorem dX7_noteOf_15 : decode cX7_noteOf 15 = .ok (.if_icmp .lt 5, 3) := dd_all DX7_noteOf_0_ok 7 rfl
theorem dX7_noteOf_18 : decode cX7_noteOf 18 = .ok (.iconst (-1), 1) := dd_all DX7_noteOf_0_ok 8 rfl
theorem dX7_noteOf_19 : decode cX7_noteOf 19 = .ok (.ireturn, 1) := dd_all DX7_noteOf_0_ok 9 rfl
theorem dX7_noteOf_20 : decode cX7_noteOf 20 = .ok (.iload_n 2, 1) := dd_all DX7_noteOf_0_ok 10 rfl
theorem dX7_noteOf_21 : decode cX7_noteOf 21 = .ok (.tableswitch 206 0 7 #[47, 62, 77, 92, 107, 141, 176, 191], 47) := dd_all DX7_noteOf_0_ok 11 rfl
theorem dX7_noteOf_68 : decode cX7_noteOf 68 = .ok (.aload_n 0, 1) := dd_all DX7_noteOf_0_ok 12 rfl
theorem dX7_noteOf_69 : decode cX7_noteOf 69 = .ok (.getfield 10, 3) := dd_all DX7_noteOf_0_ok 13 rfl
theorem dX7_noteOf_72 : decode cX7_noteOf 72 = .ok (.getfield 128, 3) := dd_all DX7_noteOf_0_ok 14 rfl
theorem dX7_noteOf_75 : decode cX7_noteOf 75 = .ok (.getfield 137, 3) := dd_all DX7_noteOf_0_ok 15 rfl
theorem dX7_noteOf_78 : decode cX7_noteOf 78 = .ok (.iload_n 1, 1) := dd_all DX7_noteOf_0_ok 16 rfl
theorem dX7_noteOf_79 : decode cX7_noteOf 79 = .ok (.invokestatic 114, 3) := dd_all DX7_noteOf_0_ok 17 rfl
theorem dX7_noteOf_82 : decode cX7_noteOf 82 = .ok (.ireturn, 1) := dd_all DX7_noteOf_0_ok 18 rfl
theorem dX7_noteOf_83 : decode cX7_noteOf 83 = .ok (.aload_n 0, 1) := dd_all DX7_noteOf_0_ok 19 rfl
theorem dX7_noteOf_84 : decode cX7_noteOf 84 = .ok (.getfield 10, 3) := dd_all DX7_noteOf_0_ok 20 rfl
theorem dX7_noteOf_87 : decode cX7_noteOf 87 = .ok (.getfield 128, 3) := dd_all DX7_noteOf_0_ok 21 rfl
theorem dX7_noteOf_90 : decode cX7_noteOf 90 = .ok (.getfield 140, 3) := dd_all DX7_noteOf_0_ok 22 rfl
theorem dX7_noteOf_93 : decode cX7_noteOf 93 = .ok (.iload_n 1, 1) := dd_all DX7_noteOf_0_ok 23 rfl
theorem dX7_noteOf_94 : decode cX7_noteOf 94 = .ok (.invokestatic 114, 3) := dd_all DX7_noteOf_0_ok 24 rfl
theorem dX7_noteOf_97 : decode cX7_noteOf 97 = .ok (.ireturn, 1) := dd_all DX7_noteOf_0_ok 25 rfl
theorem dX7_noteOf_98 : decode cX7_noteOf 98 = .ok (.aload_n 0, 1) := dd_all DX7_noteOf_0_ok 26 rfl
theorem dX7_noteOf_99 : decode cX7_noteOf 99 = .ok (.getfield 10, 3) := dd_all DX7_noteOf_0_ok 27 rfl
theorem dX7_noteOf_102 : decode cX7_noteOf 102 = .ok (.getfield 128, 3) := dd_all DX7_noteOf_0_ok 28 rfl
theorem dX7_noteOf_105 : decode cX7_noteOf 105 = .ok (.getfield 143, 3) := dd_all DX7_noteOf_0_ok 29 rfl
theorem dX7_noteOf_108 : decode cX7_noteOf 108 = .ok (.iload_n 1, 1) := dd_all DX7_noteOf_0_ok 30 rfl
theorem dX7_noteOf_109 : decode cX7_noteOf 109 = .ok (.invokestatic 114, 3) := dd_all DX7_noteOf_0_ok 31 rfl
theorem dX7_noteOf_112 : decode cX7_noteOf 112 = .ok (.ireturn, 1) := dd_all DX7_noteOf_0_ok 32 rfl
theorem dX7_noteOf_113 : decode cX7_noteOf 113 = .ok (.aload_n 0, 1) := dd_all DX7_noteOf_0_ok 33 rfl
theorem dX7_noteOf_114 : decode cX7_noteOf 114 = .ok (.getfield 10, 3) := dd_all DX7_noteOf_0_ok 34 rfl
theorem dX7_noteOf_117 : decode cX7_noteOf 117 = .ok (.getfield 128, 3) := dd_all DX7_noteOf_0_ok 35 rfl
theorem dX7_noteOf_120 : decode cX7_noteOf 120 = .ok (.getfield 146, 3) := dd_all DX7_noteOf_0_ok 36 rfl
theorem dX7_noteOf_123 : decode cX7_noteOf 123 = .ok (.iload_n 1, 1) := dd_all DX7_noteOf_0_ok 37 rfl
theorem dX7_noteOf_124 : decode cX7_noteOf 124 = .ok (.invokestatic 114, 3) := dd_all DX7_noteOf_0_ok 38 rfl
theorem dX7_noteOf_127 : decode cX7_noteOf 127 = .ok (.ireturn, 1) := dd_all DX7_noteOf_0_ok 39 rfl
def DX7_noteOf_40 : List (Nat × Instr × Nat) := [(128, .aload_n 0, 1), (129, .getfield 10, 3), (132, .getfield 128, 3), (135, .iload_n 1, 1), (136, .invokevirtual 149, 3), (139, .ifCond .eq 20, 3), (142, .aload_n 0, 1), (143, .getfield 10, 3), (146, .getfield 128, 3), (149, .getfield 152, 3), (152, .iload_n 1, 1), (153, .invokestatic 114, 3), (156, .goto 5, 3), (159, .bipush (-4), 2), (161, .ireturn, 1), (162, .aload_n 0, 1), (163, .getfield 10, 3), (166, .getfield 128, 3), (169, .iload_n 1, 1), (170, .invokevirtual 149, 3), (173, .ifCond .eq 21, 3), (176, .aload_n 0, 1), (177, .getfield 10, 3), (180, .iload_n 1, 1), (181, .aload_n 0, 1), (182, .getfield 10, 3), (185, .invokevirtual 107, 3), (188, .invokevirtual 155, 3), (191, .goto 5, 3), (194, .bipush (-4), 2), (196, .ireturn, 1), (197, .aload_n 0, 1), (198, .getfield 10, 3), (201, .getfield 128, 3), (204, .getfield 158, 3), (207, .iload_n 1, 1), (208, .invokestatic 114, 3), (211, .ireturn, 1), (212, .aload_n 0, 1), (213, .getfield 10, 3)]
theorem DX7_noteOf_40_ok : ∀ q ∈ DX7_noteOf_40, decode cX7_noteOf q.1 = .ok (q.2.1, q.2.2) := by decide +kernel
theorem dX7_noteOf_128 : decode cX7_noteOf 128 = .ok (.aload_n 0, 1) := dd_all DX7_noteOf_40_ok 0 rfl
theorem dX7_noteOf_129 : decode cX7_noteOf 129 = .ok (.getfield 10, 3) := dd_all DX7_noteOf_40_ok 1 rfl
theorem dX7_noteOf_132 : decode cX7_noteOf 132 = .ok (.getfield 128, 3) := dd_all DX7_noteOf_40_ok 2 rfl
theorem dX7_noteOf_135 : decode cX7_noteOf 135 = .ok (.iload_n 1, 1) := dd_all DX7_noteOf_40_ok 3 rfl
theorem dX7_noteOf_136 : decode cX7_noteOf 136 = .ok (.invokevirtual 149, 3) := dd_all DX7_noteOf_40_ok 4 rfl
theorem dX7_noteOf_139 : decode cX7_noteOf 139 = .ok (.ifCond .eq 20, 3) := dd_all DX7_noteOf_40_ok 5 rfl
theorem dX7_noteOf_142 : decode cX7_noteOf 142 = .ok (.aload_n 0, 1) := dd_all DX7_noteOf_40_ok 6 rfl
theorem dX7_noteOf_143 : decode cX7_noteOf 143 = .ok (.getfield 10, 3) := dd_all DX7_noteOf_40_ok 7 rfl
theorem dX7_noteOf_146 : decode cX7_noteOf 146 = .ok (.getfield 128, 3) := dd_all DX7_noteOf_40_ok 8 rfl
theorem dX7_noteOf_149 : decode cX7_noteOf 149 = .ok (.getfield 152, 3) := dd_all DX7_noteOf_40_ok 9 rfl
theorem dX7_noteOf_152 : decode cX7_noteOf 152 = .ok (.iload_n 1, 1) := dd_all DX7_noteOf_40_ok 10 rfl
theorem dX7_noteOf_153 : decode cX7_noteOf 153 = .ok (.invokestatic 114, 3) := dd_all DX7_noteOf_40_ok 11 rfl
theorem dX7_noteOf_156 : decode cX7_noteOf 156 = .ok (.goto 5, 3) := dd_all DX7_noteOf_40_ok 12 rfl
theorem dX7_noteOf_159 : decode cX7_noteOf 159 = .ok (.bipush (-4), 2) := dd_all DX7_noteOf_40_ok 13 rfl
theorem dX7_noteOf_161 : decode cX7_noteOf 161 = .ok (.ireturn, 1) := dd_all DX7_noteOf_40_ok 14 rfl
theorem dX7_noteOf_162 : decode cX7_noteOf 162 = .ok (.aload_n 0, 1) := dd_all DX7_noteOf_40_ok 15 rfl
theorem dX7_noteOf_163 : decode cX7_noteOf 163 = .ok (.getfield 10, 3) := dd_all DX7_noteOf_40_ok 16 rfl
theorem dX7_noteOf_166 : decode cX7_noteOf 166 = .ok (.getfield 128, 3) := dd_all DX7_noteOf_40_ok 17 rfl
theorem dX7_noteOf_169 : decode cX7_noteOf 169 = .ok (.iload_n 1, 1) := dd_all DX7_noteOf_40_ok 18 rfl
theorem dX7_noteOf_170 : decode cX7_noteOf 170 = .ok (.invokevirtual 149, 3) := dd_all DX7_noteOf_40_ok 19 rfl
theorem dX7_noteOf_173 : decode cX7_noteOf 173 = .ok (.ifCond .eq 21, 3) := dd_all DX7_noteOf_40_ok 20 rfl
theorem dX7_noteOf_176 : decode cX7_noteOf 176 = .ok (.aload_n 0, 1) := dd_all DX7_noteOf_40_ok 21 rfl
theorem dX7_noteOf_177 : decode cX7_noteOf 177 = .ok (.getfield 10, 3) := dd_all DX7_noteOf_40_ok 22 rfl
theorem dX7_noteOf_180 : decode cX7_noteOf 180 = .ok (.iload_n 1, 1) := dd_all DX7_noteOf_40_ok 23 rfl
theorem dX7_noteOf_181 : decode cX7_noteOf 181 = .ok (.aload_n 0, 1) := dd_all DX7_noteOf_40_ok 24 rfl
theorem dX7_noteOf_182 : decode cX7_noteOf 182 = .ok (.getfield 10, 3) := dd_all DX7_noteOf_40_ok 25 rfl
theorem dX7_noteOf_185 : decode cX7_noteOf 185 = .ok (.invokevirtual 107, 3) := dd_all DX7_noteOf_40_ok 26 rfl
theorem dX7_noteOf_188 : decode cX7_noteOf 188 = .ok (.invokevirtual 155, 3) := dd_all DX7_noteOf_40_ok 27 rfl
theorem dX7_noteOf_191 : decode cX7_noteOf 191 = .ok (.goto 5, 3) := dd_all DX7_noteOf_40_ok 28 rfl
theorem dX7_noteOf_194 : decode cX7_noteOf 194 = .ok (.bipush (-4), 2) := dd_all DX7_noteOf_40_ok 29 rfl
theorem dX7_noteOf_196 : decode cX7_noteOf 196 = .ok (.ireturn, 1) := dd_all DX7_noteOf_40_ok 30 rfl
theorem dX7_noteOf_197 : decode cX7_noteOf 197 = .ok (.aload_n 0, 1) := dd_all DX7_noteOf_40_ok 31 rfl
theorem dX7_noteOf_198 : decode cX7_noteOf 198 = .ok (.getfield 10, 3) := dd_all DX7_noteOf_40_ok 32 rfl
theorem dX7_noteOf_201 : decode cX7_noteOf 201 = .ok (.getfield 128, 3) := dd_all DX7_noteOf_40_ok 33 rfl
theorem dX7_noteOf_204 : decode cX7_noteOf 204 = .ok (.getfield 158, 3) := dd_all DX7_noteOf_40_ok 34 rfl
theorem dX7_noteOf_207 : decode cX7_noteOf 207 = .ok (.iload_n 1, 1) := dd_all DX7_noteOf_40_ok 35 rfl
theorem dX7_noteOf_208 : decode cX7_noteOf 208 = .ok (.invokestatic 114, 3) := dd_all DX7_noteOf_40_ok 36 rfl
theorem dX7_noteOf_211 : decode cX7_noteOf 211 = .ok (.ireturn, 1) := dd_all DX7_noteOf_40_ok 37 rfl
theorem dX7_noteOf_212 : decode cX7_noteOf 212 = .ok (.aload_n 0, 1) := dd_all DX7_noteOf_40_ok 38 rfl
theorem dX7_noteOf_213 : decode cX7_noteOf 213 = .ok (.getfield 10, 3) := dd_all DX7_noteOf_40_ok 39 rfl
def DX7_noteOf_80 : List (Nat × Instr × Nat) := [(216, .getfield 161, 3), (219, .iload_n 1, 1), (220, .invokevirtual 165, 3), (223, .invokestatic 170, 3), (226, .ireturn, 1), (227, .iconst (-1), 1), (228, .ireturn, 1)]
theorem DX7_noteOf_80_ok : ∀ q ∈ DX7_noteOf_80, decode cX7_noteOf q.1 = .ok (q.2.1, q.2.2) := by decide +kernel
theorem dX7_noteOf_216 : decode cX7_noteOf 216 = .ok (.getfield 161, 3) := dd_all DX7_noteOf_80_ok 0 rfl
theorem dX7_noteOf_219 : decode cX7_noteOf 219 = .ok (.iload_n 1, 1) := dd_all DX7_noteOf_80_ok 1 rfl
theorem dX7_noteOf_220 : decode cX7_noteOf 220 = .ok (.invokevirtual 165, 3) := dd_all DX7_noteOf_80_ok 2 rfl
theorem dX7_noteOf_223 : decode cX7_noteOf 223 = .ok (.invokestatic 170, 3) := dd_all DX7_noteOf_80_ok 3 rfl
theorem dX7_noteOf_226 : decode cX7_noteOf 226 = .ok (.ireturn, 1) := dd_all DX7_noteOf_80_ok 4 rfl
theorem dX7_noteOf_227 : decode cX7_noteOf 227 = .ok (.iconst (-1), 1) := dd_all DX7_noteOf_80_ok 5 rfl
theorem dX7_noteOf_228 : decode cX7_noteOf 228 = .ok (.ireturn, 1) := dd_all DX7_noteOf_80_ok 6 rfl
def DX7_voiceAt_0 : List (Nat × Instr × Nat) := [(0, .iload_n 1, 1), (1, .ifCond .ge 5, 3), (4, .iconst (-1), 1), (5, .ireturn, 1), (6, .aload_n 0, 1), (7, .getfield 10, 3), (10, .getfield 173, 3), (13, .iload_n 1, 1), (14, .invokevirtual 176, 3), (17, .invokestatic 170, 3), (20, .ireturn, 1)]
theorem DX7_voiceAt_0_ok : ∀ q ∈ DX7_voiceAt_0, decode cX7_voiceAt q.1 = .ok (q.2.1, q.2.2) := by decide +kernel
theorem dX7_voiceAt_0 : decode cX7_voiceAt 0 = .ok (.iload_n 1, 1) := dd_all DX7_voiceAt_0_ok 0 rfl
theorem dX7_voiceAt_1 : decode cX7_voiceAt 1 = .ok (.ifCond .ge 5, 3) := dd_all DX7_voiceAt_0_ok 1 rfl
theorem dX7_voiceAt_4 : decode cX7_voiceAt 4 = .ok (.iconst (-1), 1) := dd_all DX7_voiceAt_0_ok 2 rfl
theorem dX7_voiceAt_5 : decode cX7_voiceAt 5 = .ok (.ireturn, 1) := dd_all DX7_voiceAt_0_ok 3 rfl
theorem dX7_voiceAt_6 : decode cX7_voiceAt 6 = .ok (.aload_n 0, 1) := dd_all DX7_voiceAt_0_ok 4 rfl
theorem dX7_voiceAt_7 : decode cX7_voiceAt 7 = .ok (.getfield 10, 3) := dd_all DX7_voiceAt_0_ok 5 rfl
theorem dX7_voiceAt_10 : decode cX7_voiceAt 10 = .ok (.getfield 173, 3) := dd_all DX7_voiceAt_0_ok 6 rfl
theorem dX7_voiceAt_13 : decode cX7_voiceAt 13 = .ok (.iload_n 1, 1) := dd_all DX7_voiceAt_0_ok 7 rfl
theorem dX7_voiceAt_14 : decode cX7_voiceAt 14 = .ok (.invokevirtual 176, 3) := dd_all DX7_voiceAt_0_ok 8 rfl
theorem dX7_voiceAt_17 : decode cX7_voiceAt 17 = .ok (.invokestatic 170, 3) := dd_all DX7_voiceAt_0_ok 9 rfl
theorem dX7_voiceAt_20 : decode cX7_voiceAt 20 = .ok (.ireturn, 1) := dd_all DX7_voiceAt_0_ok 10 rfl
def DX7_find_0 : List (Nat × Instr × Nat) := [(0, .iload_n 1, 1), (1, .invokestatic 55, 3), (4, .ifCond .eq 10, 3), (7, .iload_n 2, 1), (8, .invokestatic 59, 3), (11, .ifCond .ne 5, 3), (14, .iconst (-1), 1), (15, .ireturn, 1), (16, .aload_n 0, 1), (17, .getfield 10, 3), (20, .iload_n 1, 1), (21, .iload_n 2, 1), (22, .invokevirtual 62, 3), (25, .invokestatic 170, 3), (28, .ireturn, 1)]
theorem DX7_find_0_ok : ∀ q ∈ DX7_find_0, decode cX7_find q.1 = .ok (q.2.1, q.2.2) := by decide +kernel
theorem dX7_find_0 : decode cX7_find 0 = .ok (.iload_n 1, 1) := dd_all DX7_find_0_ok 0 rfl
theorem dX7_find_1 : decode cX7_find 1 = .ok (.invokestatic 55, 3) := dd_all DX7_find_0_ok 1 rfl
theorem dX7_find_4 : decode cX7_find 4 = .ok (.ifCond .eq 10, 3) := dd_all DX7_find_0_ok 2 rfl
theorem dX7_find_7 : decode cX7_find 7 = .ok (.iload_n 2, 1) := dd_all DX7_find_0_ok 3 rfl
theorem dX7_find_8 : decode cX7_find 8 = .ok (.invokestatic 59, 3) := dd_all DX7_find_0_ok 4 rfl
theorem dX7_find_11 : decode cX7_find 11 = .ok (.ifCond .ne 5, 3) := dd_all DX7_find_0_ok 5 rfl
theorem dX7_find_14 : decode cX7_find 14 = .ok (.iconst (-1), 1) := dd_all DX7_find_0_ok 6 rfl
theorem dX7_find_15 : decode cX7_find 15 = .ok (.ireturn, 1) := dd_all DX7_find_0_ok 7 rfl
theorem dX7_find_16 : decode cX7_find 16 = .ok (.aload_n 0, 1) := dd_all DX7_find_0_ok 8 rfl
theorem dX7_find_17 : decode cX7_find 17 = .ok (.getfield 10, 3) := dd_all DX7_find_0_ok 9 rfl
theorem dX7_find_20 : decode cX7_find 20 = .ok (.iload_n 1, 1) := dd_all DX7_find_0_ok 10 rfl
theorem dX7_find_21 : decode cX7_find 21 = .ok (.iload_n 2, 1) := dd_all DX7_find_0_ok 11 rfl
theorem dX7_find_22 : decode cX7_find 22 = .ok (.invokevirtual 62, 3) := dd_all DX7_find_0_ok 12 rfl
theorem dX7_find_25 : decode cX7_find 25 = .ok (.invokestatic 170, 3) := dd_all DX7_find_0_ok 13 rfl
theorem dX7_find_28 : decode cX7_find 28 = .ok (.ireturn, 1) := dd_all DX7_find_0_ok 14 rfl
def DX7_partOf_0 : List (Nat × Instr × Nat) := [(0, .iload_n 1, 1), (1, .invokestatic 55, 3), (4, .ifCond .ne 5, 3), (7, .iconst (-1), 1), (8, .ireturn, 1), (9, .iload_n 2, 1), (10, .tableswitch 123 0 4 #[34, 50, 66, 98, 107], 34), (44, .aload_n 0, 1), (45, .getfield 10, 3), (48, .aload_n 0, 1), (49, .getfield 10, 3), (52, .getfield 173, 3), (55, .iload_n 1, 1), (56, .invokevirtual 179, 3), (59, .ireturn, 1), (60, .aload_n 0, 1), (61, .getfield 10, 3), (64, .aload_n 0, 1), (65, .getfield 10, 3), (68, .getfield 183, 3), (71, .iload_n 1, 1), (72, .invokevirtual 179, 3), (75, .ireturn, 1), (76, .aload_n 0, 1), (77, .getfield 10, 3), (80, .aload_n 0, 1), (81, .getfield 10, 3), (84, .getfield 173, 3), (87, .iload_n 1, 1), (88, .invokevirtual 186, 3), (91, .aload_n 0, 1), (92, .getfield 10, 3), (95, .aload_n 0, 1), (96, .getfield 10, 3), (99, .getfield 183, 3), (102, .iload_n 1, 1), (103, .invokevirtual 186, 3), (106, .iadd, 1), (107, .ireturn, 1), (108, .aload_n 0, 1)]
theorem DX7_partOf_0_ok : ∀ q ∈ DX7_partOf_0, decode cX7_partOf q.1 = .ok (q.2.1, q.2.2) := by decide +kernel
theorem dX7_partOf_0 : decode cX7_partOf 0 = .ok (.iload_n 1, 1) := dd_all DX7_partOf_0_ok 0 rfl
theorem dX7_partOf_1 : decode cX7_partOf 1 = .ok (.invokestatic 55, 3) := dd_all DX7_partOf_0_ok 1 rfl
theorem dX7_partOf_4 : decode cX7_partOf 4 = .ok (.ifCond .ne 5, 3) := dd_all DX7_partOf_0_ok 2 rfl
theorem dX7_partOf_7 : decode cX7_partOf 7 = .ok (.iconst (-1), 1) := dd_all DX7_partOf_0_ok 3 rfl
theorem dX7_partOf_8 : decode cX7_partOf 8 = .ok (.ireturn, 1) := dd_all DX7_partOf_0_ok 4 rfl
theorem dX7_partOf_9 : decode cX7_partOf 9 = .ok (.iload_n 2, 1) := dd_all DX7_partOf_0_ok 5 rfl
theorem dX7_partOf_10 : decode cX7_partOf 10 = .ok (.tableswitch 123 0 4 #[34, 50, 66, 98, 107], 34) := dd_all DX7_partOf_0_ok 6 rfl
theorem dX7_partOf_44 : decode cX7_partOf 44 = .ok (.aload_n 0, 1) := dd_all DX7_partOf_0_ok 7 rfl
theorem dX7_partOf_45 : decode cX7_partOf 45 = .ok (.getfield 10, 3) := dd_all DX7_partOf_0_ok 8 rfl
theorem dX7_partOf_48 : decode cX7_partOf 48 = .ok (.aload_n 0, 1) := dd_all DX7_partOf_0_ok 9 rfl
theorem dX7_partOf_49 : decode cX7_partOf 49 = .ok (.getfield 10, 3) := dd_all DX7_partOf_0_ok 10 rfl
theorem dX7_partOf_52 : decode cX7_partOf 52 = .ok (.getfield 173, 3) := dd_all DX7_partOf_0_ok 11 rfl
theorem dX7_partOf_55 : decode cX7_partOf 55 = .ok (.iload_n 1, 1) := dd_all DX7_partOf_0_ok 12 rfl
theorem dX7_partOf_56 : decode cX7_partOf 56 = .ok (.invokevirtual 179, 3) := dd_all DX7_partOf_0_ok 13 rfl
theorem dX7_partOf_59 : decode cX7_partOf 59 = .ok (.ireturn, 1) := dd_all DX7_partOf_0_ok 14 rfl
theorem dX7_partOf_60 : decode cX7_partOf 60 = .ok (.aload_n 0, 1) := dd_all DX7_partOf_0_ok 15 rfl
theorem dX7_partOf_61 : decode cX7_partOf 61 = .ok (.getfield 10, 3) := dd_all DX7_partOf_0_ok 16 rfl
theorem dX7_partOf_64 : decode cX7_partOf 64 = .ok (.aload_n 0, 1) := dd_all DX7_partOf_0_ok 17 rfl
theorem dX7_partOf_65 : decode cX7_partOf 65 = .ok (.getfield 10, 3) := dd_all DX7_partOf_0_ok 18 rfl
theorem dX7_partOf_68 : decode cX7_partOf 68 = .ok (.getfield 183, 3) := dd_all DX7_partOf_0_ok 19 rfl
theorem dX7_partOf_71 : decode cX7_partOf 71 = .ok (.iload_n 1, 1) := dd_all DX7_partOf_0_ok 20 rfl
theorem dX7_partOf_72 : decode cX7_partOf 72 = .ok (.invokevirtual 179, 3) := dd_all DX7_partOf_0_ok 21 rfl
theorem dX7_partOf_75 : decode cX7_partOf 75 = .ok (.ireturn, 1) := dd_all DX7_partOf_0_ok 22 rfl
theorem dX7_partOf_76 : decode cX7_partOf 76 = .ok (.aload_n 0, 1) := dd_all DX7_partOf_0_ok 23 rfl
theorem dX7_partOf_77 : decode cX7_partOf 77 = .ok (.getfield 10, 3) := dd_all DX7_partOf_0_ok 24 rfl
theorem dX7_partOf_80 : decode cX7_partOf 80 = .ok (.aload_n 0, 1) := dd_all DX7_partOf_0_ok 25 rfl
theorem dX7_partOf_81 : decode cX7_partOf 81 = .ok (.getfield 10, 3) := dd_all DX7_partOf_0_ok 26 rfl
theorem dX7_partOf_84 : decode cX7_partOf 84 = .ok (.getfield 173, 3) := dd_all DX7_partOf_0_ok 27 rfl
theorem dX7_partOf_87 : decode cX7_partOf 87 = .ok (.iload_n 1, 1) := dd_all DX7_partOf_0_ok 28 rfl
theorem dX7_partOf_88 : decode cX7_partOf 88 = .ok (.invokevirtual 186, 3) := dd_all DX7_partOf_0_ok 29 rfl
theorem dX7_partOf_91 : decode cX7_partOf 91 = .ok (.aload_n 0, 1) := dd_all DX7_partOf_0_ok 30 rfl
theorem dX7_partOf_92 : decode cX7_partOf 92 = .ok (.getfield 10, 3) := dd_all DX7_partOf_0_ok 31 rfl
theorem dX7_partOf_95 : decode cX7_partOf 95 = .ok (.aload_n 0, 1) := dd_all DX7_partOf_0_ok 32 rfl
theorem dX7_partOf_96 : decode cX7_partOf 96 = .ok (.getfield 10, 3) := dd_all DX7_partOf_0_ok 33 rfl
theorem dX7_partOf_99 : decode cX7_partOf 99 = .ok (.getfield 183, 3) := dd_all DX7_partOf_0_ok 34 rfl
theorem dX7_partOf_102 : decode cX7_partOf 102 = .ok (.iload_n 1, 1) := dd_all DX7_partOf_0_ok 35 rfl
theorem dX7_partOf_103 : decode cX7_partOf 103 = .ok (.invokevirtual 186, 3) := dd_all DX7_partOf_0_ok 36 rfl
theorem dX7_partOf_106 : decode cX7_partOf 106 = .ok (.iadd, 1) := dd_all DX7_partOf_0_ok 37 rfl
theorem dX7_partOf_107 : decode cX7_partOf 107 = .ok (.ireturn, 1) := dd_all DX7_partOf_0_ok 38 rfl
theorem dX7_partOf_108 : decode cX7_partOf 108 = .ok (.aload_n 0, 1) := dd_all DX7_partOf_0_ok 39 rfl
def DX7_partOf_40 : List (Nat × Instr × Nat) := [(109, .getfield 10, 3), (112, .iload_n 1, 1), (113, .invokevirtual 189, 3), (116, .ireturn, 1), (117, .aload_n 0, 1), (118, .getfield 10, 3), (121, .aload_n 0, 1), (122, .getfield 10, 3), (125, .getfield 161, 3), (128, .iload_n 1, 1), (129, .invokevirtual 179, 3), (132, .ireturn, 1), (133, .iconst (-1), 1), (134, .ireturn, 1)]
theorem DX7_partOf_40_ok : ∀ q ∈ DX7_partOf_40, decode cX7_partOf q.1 = .ok (q.2.1, q.2.2) := by decide +kernel
theorem dX7_partOf_109 : decode cX7_partOf 109 = .ok (.getfield 10, 3) := dd_all DX7_partOf_40_ok 0 rfl
theorem dX7_partOf_112 : decode cX7_partOf 112 = .ok (.iload_n 1, 1) := dd_all DX7_partOf_40_ok 1 rfl
theorem dX7_partOf_113 : decode cX7_partOf 113 = .ok (.invokevirtual 189, 3) := dd_all DX7_partOf_40_ok 2 rfl
theorem dX7_partOf_116 : decode cX7_partOf 116 = .ok (.ireturn, 1) := dd_all DX7_partOf_40_ok 3 rfl
theorem dX7_partOf_117 : decode cX7_partOf 117 = .ok (.aload_n 0, 1) := dd_all DX7_partOf_40_ok 4 rfl
theorem dX7_partOf_118 : decode cX7_partOf 118 = .ok (.getfield 10, 3) := dd_all DX7_partOf_40_ok 5 rfl
theorem dX7_partOf_121 : decode cX7_partOf 121 = .ok (.aload_n 0, 1) := dd_all DX7_partOf_40_ok 6 rfl
theorem dX7_partOf_122 : decode cX7_partOf 122 = .ok (.getfield 10, 3) := dd_all DX7_partOf_40_ok 7 rfl
theorem dX7_partOf_125 : decode cX7_partOf 125 = .ok (.getfield 161, 3) := dd_all DX7_partOf_40_ok 8 rfl
theorem dX7_partOf_128 : decode cX7_partOf 128 = .ok (.iload_n 1, 1) := dd_all DX7_partOf_40_ok 9 rfl
theorem dX7_partOf_129 : decode cX7_partOf 129 = .ok (.invokevirtual 179, 3) := dd_all DX7_partOf_40_ok 10 rfl
theorem dX7_partOf_132 : decode cX7_partOf 132 = .ok (.ireturn, 1) := dd_all DX7_partOf_40_ok 11 rfl
theorem dX7_partOf_133 : decode cX7_partOf 133 = .ok (.iconst (-1), 1) := dd_all DX7_partOf_40_ok 12 rfl
theorem dX7_partOf_134 : decode cX7_partOf 134 = .ok (.ireturn, 1) := dd_all DX7_partOf_40_ok 13 rfl
def DX7_count_0 : List (Nat × Instr × Nat) := [(0, .iload_n 1, 1), (1, .tableswitch 259 0 22 #[107, 118, 129, 137, 148, 159, 167, 175, 183, 191, 199, 207, 215, 259, 259, 259, 259, 259, 259, 259, 223, 235, 247], 107), (108, .aload_n 0, 1), (109, .getfield 10, 3), (112, .getfield 128, 3), (115, .getfield 132, 3), (118, .ireturn, 1), (119, .aload_n 0, 1), (120, .getfield 10, 3), (123, .getfield 173, 3), (126, .getfield 192, 3), (129, .ireturn, 1), (130, .aload_n 0, 1), (131, .getfield 10, 3), (134, .invokevirtual 193, 3), (137, .ireturn, 1), (138, .aload_n 0, 1), (139, .getfield 10, 3), (142, .getfield 183, 3), (145, .getfield 192, 3), (148, .ireturn, 1), (149, .aload_n 0, 1), (150, .getfield 10, 3), (153, .getfield 161, 3), (156, .getfield 192, 3), (159, .ireturn, 1), (160, .aload_n 0, 1), (161, .getfield 10, 3), (164, .getfield 100, 3), (167, .ireturn, 1), (168, .aload_n 0, 1), (169, .getfield 10, 3), (172, .invokevirtual 107, 3), (175, .ireturn, 1), (176, .aload_n 0, 1), (177, .getfield 10, 3), (180, .invokevirtual 196, 3), (183, .ireturn, 1), (184, .aload_n 0, 1), (185, .getfield 10, 3)]
theorem DX7_count_0_ok : ∀ q ∈ DX7_count_0, decode cX7_count q.1 = .ok (q.2.1, q.2.2) := by decide +kernel
theorem dX7_count_0 : decode cX7_count 0 = .ok (.iload_n 1, 1) := dd_all DX7_count_0_ok 0 rfl
theorem dX7_count_1 : decode cX7_count 1 = .ok (.tableswitch 259 0 22 #[107, 118, 129, 137, 148, 159, 167, 175, 183, 191, 199, 207, 215, 259, 259, 259, 259, 259, 259, 259, 223, 235, 247], 107) := dd_all DX7_count_0_ok 1 rfl
theorem dX7_count_108 : decode cX7_count 108 = .ok (.aload_n 0, 1) := dd_all DX7_count_0_ok 2 rfl
theorem dX7_count_109 : decode cX7_count 109 = .ok (.getfield 10, 3) := dd_all DX7_count_0_ok 3 rfl
theorem dX7_count_112 : decode cX7_count 112 = .ok (.getfield 128, 3) := dd_all DX7_count_0_ok 4 rfl
theorem dX7_count_115 : decode cX7_count 115 = .ok (.getfield 132, 3) := dd_all DX7_count_0_ok 5 rfl
theorem dX7_count_118 : decode cX7_count 118 = .ok (.ireturn, 1) := dd_all DX7_count_0_ok 6 rfl
theorem dX7_count_119 : decode cX7_count 119 = .ok (.aload_n 0, 1) := dd_all DX7_count_0_ok 7 rfl
theorem dX7_count_120 : decode cX7_count 120 = .ok (.getfield 10, 3) := dd_all DX7_count_0_ok 8 rfl
theorem dX7_count_123 : decode cX7_count 123 = .ok (.getfield 173, 3) := dd_all DX7_count_0_ok 9 rfl
theorem dX7_count_126 : decode cX7_count 126 = .ok (.getfield 192, 3) := dd_all DX7_count_0_ok 10 rfl
theorem dX7_count_129 : decode cX7_count 129 = .ok (.ireturn, 1) := dd_all DX7_count_0_ok 11 rfl
theorem dX7_count_130 : decode cX7_count 130 = .ok (.aload_n 0, 1) := dd_all DX7_count_0_ok 12 rfl
theorem dX7_count_131 : decode cX7_count 131 = .ok (.getfield 10, 3) := dd_all DX7_count_0_ok 13 rfl
theorem dX7_count_134 : decode cX7_count 134 = .ok (.invokevirtual 193, 3) := dd_all DX7_count_0_ok 14 rfl
theorem dX7_count_137 : decode cX7_count 137 = .ok (.ireturn, 1) := dd_all DX7_count_0_ok 15 rfl
theorem dX7_count_138 : decode cX7_count 138 = .ok (.aload_n 0, 1) := dd_all DX7_count_0_ok 16 rfl
theorem dX7_count_139 : decode cX7_count 139 = .ok (.getfield 10, 3) := dd_all DX7_count_0_ok 17 rfl
theorem dX7_count_142 : decode cX7_count 142 = .ok (.getfield 183, 3) := dd_all DX7_count_0_ok 18 rfl
theorem dX7_count_145 : decode cX7_count 145 = .ok (.getfield 192, 3) := dd_all DX7_count_0_ok 19 rfl
theorem dX7_count_148 : decode cX7_count 148 = .ok (.ireturn, 1) := dd_all DX7_count_0_ok 20 rfl
theorem dX7_count_149 : decode cX7_count 149 = .ok (.aload_n 0, 1) := dd_all DX7_count_0_ok 21 rfl
theorem dX7_count_150 : decode cX7_count 150 = .ok (.getfield 10, 3) := dd_all DX7_count_0_ok 22 rfl
theorem dX7_count_153 : decode cX7_count 153 = .ok (.getfield 161, 3) := dd_all DX7_count_0_ok 23 rfl
theorem dX7_count_156 : decode cX7_count 156 = .ok (.getfield 192, 3) := dd_all DX7_count_0_ok 24 rfl
theorem dX7_count_159 : decode cX7_count 159 = .ok (.ireturn, 1) := dd_all DX7_count_0_ok 25 rfl
theorem dX7_count_160 : decode cX7_count 160 = .ok (.aload_n 0, 1) := dd_all DX7_count_0_ok 26 rfl
theorem dX7_count_161 : decode cX7_count 161 = .ok (.getfield 10, 3) := dd_all DX7_count_0_ok 27 rfl
theorem dX7_count_164 : decode cX7_count 164 = .ok (.getfield 100, 3) := dd_all DX7_count_0_ok 28 rfl
theorem dX7_count_167 : decode cX7_count 167 = .ok (.ireturn, 1) := dd_all DX7_count_0_ok 29 rfl
theorem dX7_count_168 : decode cX7_count 168 = .ok (.aload_n 0, 1) := dd_all DX7_count_0_ok 30 rfl
theorem dX7_count_169 : decode cX7_count 169 = .ok (.getfield 10, 3) := dd_all DX7_count_0_ok 31 rfl
theorem dX7_count_172 : decode cX7_count 172 = .ok (.invokevirtual 107, 3) := dd_all DX7_count_0_ok 32 rfl
theorem dX7_count_175 : decode cX7_count 175 = .ok (.ireturn, 1) := dd_all DX7_count_0_ok 33 rfl
theorem dX7_count_176 : decode cX7_count 176 = .ok (.aload_n 0, 1) := dd_all DX7_count_0_ok 34 rfl
theorem dX7_count_177 : decode cX7_count 177 = .ok (.getfield 10, 3) := dd_all DX7_count_0_ok 35 rfl
theorem dX7_count_180 : decode cX7_count 180 = .ok (.invokevirtual 196, 3) := dd_all DX7_count_0_ok 36 rfl
theorem dX7_count_183 : decode cX7_count 183 = .ok (.ireturn, 1) := dd_all DX7_count_0_ok 37 rfl
theorem dX7_count_184 : decode cX7_count 184 = .ok (.aload_n 0, 1) := dd_all DX7_count_0_ok 38 rfl
theorem dX7_count_185 : decode cX7_count 185 = .ok (.getfield 10, 3) := dd_all DX7_count_0_ok 39 rfl
def DX7_count_40 : List (Nat × Instr × Nat) := [(188, .getfield 92, 3), (191, .ireturn, 1), (192, .aload_n 0, 1), (193, .getfield 10, 3), (196, .getfield 199, 3), (199, .ireturn, 1), (200, .aload_n 0, 1), (201, .getfield 10, 3), (204, .getfield 202, 3), (207, .ireturn, 1), (208, .aload_n 0, 1), (209, .getfield 22, 3), (212, .getfield 205, 3), (215, .ireturn, 1), (216, .aload_n 0, 1), (217, .getfield 33, 3), (220, .getfield 206, 3), (223, .ireturn, 1), (224, .aload_n 0, 1), (225, .getfield 10, 3), (228, .getfield 121, 3), (231, .iconst 0, 1), (232, .invokestatic 114, 3), (235, .ireturn, 1), (236, .aload_n 0, 1), (237, .getfield 10, 3), (240, .getfield 121, 3), (243, .iconst 1, 1), (244, .invokestatic 114, 3), (247, .ireturn, 1), (248, .aload_n 0, 1), (249, .getfield 10, 3), (252, .getfield 121, 3), (255, .iconst 2, 1), (256, .invokestatic 114, 3), (259, .ireturn, 1), (260, .iconst (-1), 1), (261, .ireturn, 1)]
theorem DX7_count_40_ok : ∀ q ∈ DX7_count_40, decode cX7_count q.1 = .ok (q.2.1, q.2.2) := by decide +kernel
theorem dX7_count_188 : decode cX7_count 188 = .ok (.getfield 92, 3) := dd_all DX7_count_40_ok 0 rfl
theorem dX7_count_191 : decode cX7_count 191 = .ok (.ireturn, 1) := dd_all DX7_count_40_ok 1 rfl
theorem dX7_count_192 : decode cX7_count 192 = .ok (.aload_n 0, 1) := dd_all DX7_count_40_ok 2 rfl
theorem dX7_count_193 : decode cX7_count 193 = .ok (.getfield 10, 3) := dd_all DX7_count_40_ok 3 rfl
theorem dX7_count_196 : decode cX7_count 196 = .ok (.getfield 199, 3) := dd_all DX7_count_40_ok 4 rfl
theorem dX7_count_199 : decode cX7_count 199 = .ok (.ireturn, 1) := dd_all DX7_count_40_ok 5 rfl
theorem dX7_count_200 : decode cX7_count 200 = .ok (.aload_n 0, 1) := dd_all DX7_count_40_ok 6 rfl
theorem dX7_count_201 : decode cX7_count 201 = .ok (.getfield 10, 3) := dd_all DX7_count_40_ok 7 rfl
theorem dX7_count_204 : decode cX7_count 204 = .ok (.getfield 202, 3) := dd_all DX7_count_40_ok 8 rfl
theorem dX7_count_207 : decode cX7_count 207 = .ok (.ireturn, 1) := dd_all DX7_count_40_ok 9 rfl
theorem dX7_count_208 : decode cX7_count 208 = .ok (.aload_n 0, 1) := dd_all DX7_count_40_ok 10 rfl
theorem dX7_count_209 : decode cX7_count 209 = .ok (.getfield 22, 3) := dd_all DX7_count_40_ok 11 rfl
theorem dX7_count_212 : decode cX7_count 212 = .ok (.getfield 205, 3) := dd_all DX7_count_40_ok 12 rfl
theorem dX7_count_215 : decode cX7_count 215 = .ok (.ireturn, 1) := dd_all DX7_count_40_ok 13 rfl
theorem dX7_count_216 : decode cX7_count 216 = .ok (.aload_n 0, 1) := dd_all DX7_count_40_ok 14 rfl
theorem dX7_count_217 : decode cX7_count 217 = .ok (.getfield 33, 3) := dd_all DX7_count_40_ok 15 rfl
theorem dX7_count_220 : decode cX7_count 220 = .ok (.getfield 206, 3) := dd_all DX7_count_40_ok 16 rfl
theorem dX7_count_223 : decode cX7_count 223 = .ok (.ireturn, 1) := dd_all DX7_count_40_ok 17 rfl
theorem dX7_count_224 : decode cX7_count 224 = .ok (.aload_n 0, 1) := dd_all DX7_count_40_ok 18 rfl
theorem dX7_count_225 : decode cX7_count 225 = .ok (.getfield 10, 3) := dd_all DX7_count_40_ok 19 rfl
theorem dX7_count_228 : decode cX7_count 228 = .ok (.getfield 121, 3) := dd_all DX7_count_40_ok 20 rfl
theorem dX7_count_231 : decode cX7_count 231 = .ok (.iconst 0, 1) := dd_all DX7_count_40_ok 21 rfl
theorem dX7_count_232 : decode cX7_count 232 = .ok (.invokestatic 114, 3) := dd_all DX7_count_40_ok 22 rfl
theorem dX7_count_235 : decode cX7_count 235 = .ok (.ireturn, 1) := dd_all DX7_count_40_ok 23 rfl
theorem dX7_count_236 : decode cX7_count 236 = .ok (.aload_n 0, 1) := dd_all DX7_count_40_ok 24 rfl
theorem dX7_count_237 : decode cX7_count 237 = .ok (.getfield 10, 3) := dd_all DX7_count_40_ok 25 rfl
theorem dX7_count_240 : decode cX7_count 240 = .ok (.getfield 121, 3) := dd_all DX7_count_40_ok 26 rfl
theorem dX7_count_243 : decode cX7_count 243 = .ok (.iconst 1, 1) := dd_all DX7_count_40_ok 27 rfl
theorem dX7_count_244 : decode cX7_count 244 = .ok (.invokestatic 114, 3) := dd_all DX7_count_40_ok 28 rfl
theorem dX7_count_247 : decode cX7_count 247 = .ok (.ireturn, 1) := dd_all DX7_count_40_ok 29 rfl
theorem dX7_count_248 : decode cX7_count 248 = .ok (.aload_n 0, 1) := dd_all DX7_count_40_ok 30 rfl
theorem dX7_count_249 : decode cX7_count 249 = .ok (.getfield 10, 3) := dd_all DX7_count_40_ok 31 rfl
theorem dX7_count_252 : decode cX7_count 252 = .ok (.getfield 121, 3) := dd_all DX7_count_40_ok 32 rfl
theorem dX7_count_255 : decode cX7_count 255 = .ok (.iconst 2, 1) := dd_all DX7_count_40_ok 33 rfl
theorem dX7_count_256 : decode cX7_count 256 = .ok (.invokestatic 114, 3) := dd_all DX7_count_40_ok 34 rfl
theorem dX7_count_259 : decode cX7_count 259 = .ok (.ireturn, 1) := dd_all DX7_count_40_ok 35 rfl
theorem dX7_count_260 : decode cX7_count 260 = .ok (.iconst (-1), 1) := dd_all DX7_count_40_ok 36 rfl
theorem dX7_count_261 : decode cX7_count 261 = .ok (.ireturn, 1) := dd_all DX7_count_40_ok 37 rfl
def DX7_next_0 : List (Nat × Instr × Nat) := [(0, .aload_n 0, 1), (1, .getfield 10, 3), (4, .invokevirtual 209, 3), (7, .invokestatic 170, 3), (10, .ireturn, 1)]
theorem DX7_next_0_ok : ∀ q ∈ DX7_next_0, decode cX7_next q.1 = .ok (q.2.1, q.2.2) := by decide +kernel
theorem dX7_next_0 : decode cX7_next 0 = .ok (.aload_n 0, 1) := dd_all DX7_next_0_ok 0 rfl
theorem dX7_next_1 : decode cX7_next 1 = .ok (.getfield 10, 3) := dd_all DX7_next_0_ok 1 rfl
theorem dX7_next_4 : decode cX7_next 4 = .ok (.invokevirtual 209, 3) := dd_all DX7_next_0_ok 2 rfl
theorem dX7_next_7 : decode cX7_next 7 = .ok (.invokestatic 170, 3) := dd_all DX7_next_0_ok 3 rfl
theorem dX7_next_10 : decode cX7_next 10 = .ok (.ireturn, 1) := dd_all DX7_next_0_ok 4 rfl
def DX7_peak_0 : List (Nat × Instr × Nat) := [(0, .iload_n 1, 1), (1, .iconst 1, 1), (2, .if_icmp .lt 10, 3), (5, .iload_n 1, 1), (6, .sipush 200, 3), (9, .if_icmp .le 5, 3), (12, .iconst (-1), 1), (13, .ireturn, 1), (14, .aload_n 0, 1), (15, .getfield 16, 3), (18, .aload_n 0, 1), (19, .getfield 10, 3), (22, .invokevirtual 212, 3), (25, .iconst 0, 1), (26, .istore_n 2, 1), (27, .iconst 0, 1), (28, .istore_n 3, 1), (29, .iload_n 3, 1), (30, .iload_n 1, 1), (31, .if_icmp .ge 28, 3), (34, .aload_n 0, 1), (35, .getfield 16, 3), (38, .invokevirtual 104, 3), (41, .iload_n 2, 1), (42, .aload_n 0, 1), (43, .getfield 16, 3), (46, .invokevirtual 107, 3), (49, .invokestatic 215, 3), (52, .istore_n 2, 1), (53, .iinc 3 1, 3), (56, .goto (-27), 3), (59, .iload_n 2, 1), (60, .ireturn, 1)]
theorem DX7_peak_0_ok : ∀ q ∈ DX7_peak_0, decode cX7_peak q.1 = .ok (q.2.1, q.2.2) := by decide +kernel
theorem dX7_peak_0 : decode cX7_peak 0 = .ok (.iload_n 1, 1) := dd_all DX7_peak_0_ok 0 rfl
theorem dX7_peak_1 : decode cX7_peak 1 = .ok (.iconst 1, 1) := dd_all DX7_peak_0_ok 1 rfl
theorem dX7_peak_2 : decode cX7_peak 2 = .ok (.if_icmp .lt 10, 3) := dd_all DX7_peak_0_ok 2 rfl
theorem dX7_peak_5 : decode cX7_peak 5 = .ok (.iload_n 1, 1) := dd_all DX7_peak_0_ok 3 rfl
theorem dX7_peak_6 : decode cX7_peak 6 = .ok (.sipush 200, 3) := dd_all DX7_peak_0_ok 4 rfl
theorem dX7_peak_9 : decode cX7_peak 9 = .ok (.if_icmp .le 5, 3) := dd_all DX7_peak_0_ok 5 rfl
theorem dX7_peak_12 : decode cX7_peak 12 = .ok (.iconst (-1), 1) := dd_all DX7_peak_0_ok 6 rfl
theorem dX7_peak_13 : decode cX7_peak 13 = .ok (.ireturn, 1) := dd_all DX7_peak_0_ok 7 rfl
theorem dX7_peak_14 : decode cX7_peak 14 = .ok (.aload_n 0, 1) := dd_all DX7_peak_0_ok 8 rfl
theorem dX7_peak_15 : decode cX7_peak 15 = .ok (.getfield 16, 3) := dd_all DX7_peak_0_ok 9 rfl
theorem dX7_peak_18 : decode cX7_peak 18 = .ok (.aload_n 0, 1) := dd_all DX7_peak_0_ok 10 rfl
theorem dX7_peak_19 : decode cX7_peak 19 = .ok (.getfield 10, 3) := dd_all DX7_peak_0_ok 11 rfl
theorem dX7_peak_22 : decode cX7_peak 22 = .ok (.invokevirtual 212, 3) := dd_all DX7_peak_0_ok 12 rfl
theorem dX7_peak_25 : decode cX7_peak 25 = .ok (.iconst 0, 1) := dd_all DX7_peak_0_ok 13 rfl
theorem dX7_peak_26 : decode cX7_peak 26 = .ok (.istore_n 2, 1) := dd_all DX7_peak_0_ok 14 rfl
theorem dX7_peak_27 : decode cX7_peak 27 = .ok (.iconst 0, 1) := dd_all DX7_peak_0_ok 15 rfl
theorem dX7_peak_28 : decode cX7_peak 28 = .ok (.istore_n 3, 1) := dd_all DX7_peak_0_ok 16 rfl
theorem dX7_peak_29 : decode cX7_peak 29 = .ok (.iload_n 3, 1) := dd_all DX7_peak_0_ok 17 rfl
theorem dX7_peak_30 : decode cX7_peak 30 = .ok (.iload_n 1, 1) := dd_all DX7_peak_0_ok 18 rfl
theorem dX7_peak_31 : decode cX7_peak 31 = .ok (.if_icmp .ge 28, 3) := dd_all DX7_peak_0_ok 19 rfl
theorem dX7_peak_34 : decode cX7_peak 34 = .ok (.aload_n 0, 1) := dd_all DX7_peak_0_ok 20 rfl
theorem dX7_peak_35 : decode cX7_peak 35 = .ok (.getfield 16, 3) := dd_all DX7_peak_0_ok 21 rfl
theorem dX7_peak_38 : decode cX7_peak 38 = .ok (.invokevirtual 104, 3) := dd_all DX7_peak_0_ok 22 rfl
theorem dX7_peak_41 : decode cX7_peak 41 = .ok (.iload_n 2, 1) := dd_all DX7_peak_0_ok 23 rfl
theorem dX7_peak_42 : decode cX7_peak 42 = .ok (.aload_n 0, 1) := dd_all DX7_peak_0_ok 24 rfl
theorem dX7_peak_43 : decode cX7_peak 43 = .ok (.getfield 16, 3) := dd_all DX7_peak_0_ok 25 rfl
theorem dX7_peak_46 : decode cX7_peak 46 = .ok (.invokevirtual 107, 3) := dd_all DX7_peak_0_ok 26 rfl
theorem dX7_peak_49 : decode cX7_peak 49 = .ok (.invokestatic 215, 3) := dd_all DX7_peak_0_ok 27 rfl
theorem dX7_peak_52 : decode cX7_peak 52 = .ok (.istore_n 2, 1) := dd_all DX7_peak_0_ok 28 rfl
theorem dX7_peak_53 : decode cX7_peak 53 = .ok (.iinc 3 1, 3) := dd_all DX7_peak_0_ok 29 rfl
theorem dX7_peak_56 : decode cX7_peak 56 = .ok (.goto (-27), 3) := dd_all DX7_peak_0_ok 30 rfl
theorem dX7_peak_59 : decode cX7_peak 59 = .ok (.iload_n 2, 1) := dd_all DX7_peak_0_ok 31 rfl
theorem dX7_peak_60 : decode cX7_peak 60 = .ok (.ireturn, 1) := dd_all DX7_peak_0_ok 32 rfl
def DX7_silence_0 : List (Nat × Instr × Nat) := [(0, .aload_n 0, 1), (1, .getfield 16, 3), (4, .aload_n 0, 1), (5, .getfield 10, 3), (8, .invokevirtual 212, 3), (11, .aload_n 0, 1), (12, .getfield 16, 3), (15, .invokevirtual 220, 3), (18, .iconst 0, 1), (19, .istore_n 1, 1), (20, .iload_n 1, 1), (21, .ldc 223, 2), (23, .if_icmp .ge 40, 3), (26, .aload_n 0, 1), (27, .getfield 16, 3), (30, .getfield 173, 3), (33, .getfield 192, 3), (36, .aload_n 0, 1), (37, .getfield 16, 3), (40, .getfield 183, 3), (43, .getfield 192, 3), (46, .iadd, 1), (47, .ifCond .le 16, 3), (50, .aload_n 0, 1), (51, .getfield 16, 3), (54, .invokevirtual 104, 3), (57, .iinc 1 1, 3), (60, .goto (-40), 3), (63, .iload_n 1, 1), (64, .ireturn, 1)]
theorem DX7_silence_0_ok : ∀ q ∈ DX7_silence_0, decode cX7_silence q.1 = .ok (q.2.1, q.2.2) := by decide +kernel
theorem dX7_silence_0 : decode cX7_silence 0 = .ok (.aload_n 0, 1) := dd_all DX7_silence_0_ok 0 rfl
theorem dX7_silence_1 : decode cX7_silence 1 = .ok (.getfield 16, 3) := dd_all DX7_silence_0_ok 1 rfl
theorem dX7_silence_4 : decode cX7_silence 4 = .ok (.aload_n 0, 1) := dd_all DX7_silence_0_ok 2 rfl
theorem dX7_silence_5 : decode cX7_silence 5 = .ok (.getfield 10, 3) := dd_all DX7_silence_0_ok 3 rfl
theorem dX7_silence_8 : decode cX7_silence 8 = .ok (.invokevirtual 212, 3) := dd_all DX7_silence_0_ok 4 rfl
theorem dX7_silence_11 : decode cX7_silence 11 = .ok (.aload_n 0, 1) := dd_all DX7_silence_0_ok 5 rfl
theorem dX7_silence_12 : decode cX7_silence 12 = .ok (.getfield 16, 3) := dd_all DX7_silence_0_ok 6 rfl
theorem dX7_silence_15 : decode cX7_silence 15 = .ok (.invokevirtual 220, 3) := dd_all DX7_silence_0_ok 7 rfl
theorem dX7_silence_18 : decode cX7_silence 18 = .ok (.iconst 0, 1) := dd_all DX7_silence_0_ok 8 rfl
theorem dX7_silence_19 : decode cX7_silence 19 = .ok (.istore_n 1, 1) := dd_all DX7_silence_0_ok 9 rfl
theorem dX7_silence_20 : decode cX7_silence 20 = .ok (.iload_n 1, 1) := dd_all DX7_silence_0_ok 10 rfl
theorem dX7_silence_21 : decode cX7_silence 21 = .ok (.ldc 223, 2) := dd_all DX7_silence_0_ok 11 rfl
theorem dX7_silence_23 : decode cX7_silence 23 = .ok (.if_icmp .ge 40, 3) := dd_all DX7_silence_0_ok 12 rfl
theorem dX7_silence_26 : decode cX7_silence 26 = .ok (.aload_n 0, 1) := dd_all DX7_silence_0_ok 13 rfl
theorem dX7_silence_27 : decode cX7_silence 27 = .ok (.getfield 16, 3) := dd_all DX7_silence_0_ok 14 rfl
theorem dX7_silence_30 : decode cX7_silence 30 = .ok (.getfield 173, 3) := dd_all DX7_silence_0_ok 15 rfl
theorem dX7_silence_33 : decode cX7_silence 33 = .ok (.getfield 192, 3) := dd_all DX7_silence_0_ok 16 rfl
theorem dX7_silence_36 : decode cX7_silence 36 = .ok (.aload_n 0, 1) := dd_all DX7_silence_0_ok 17 rfl
theorem dX7_silence_37 : decode cX7_silence 37 = .ok (.getfield 16, 3) := dd_all DX7_silence_0_ok 18 rfl
theorem dX7_silence_40 : decode cX7_silence 40 = .ok (.getfield 183, 3) := dd_all DX7_silence_0_ok 19 rfl
theorem dX7_silence_43 : decode cX7_silence 43 = .ok (.getfield 192, 3) := dd_all DX7_silence_0_ok 20 rfl
theorem dX7_silence_46 : decode cX7_silence 46 = .ok (.iadd, 1) := dd_all DX7_silence_0_ok 21 rfl
theorem dX7_silence_47 : decode cX7_silence 47 = .ok (.ifCond .le 16, 3) := dd_all DX7_silence_0_ok 22 rfl
theorem dX7_silence_50 : decode cX7_silence 50 = .ok (.aload_n 0, 1) := dd_all DX7_silence_0_ok 23 rfl
theorem dX7_silence_51 : decode cX7_silence 51 = .ok (.getfield 16, 3) := dd_all DX7_silence_0_ok 24 rfl
theorem dX7_silence_54 : decode cX7_silence 54 = .ok (.invokevirtual 104, 3) := dd_all DX7_silence_0_ok 25 rfl
theorem dX7_silence_57 : decode cX7_silence 57 = .ok (.iinc 1 1, 3) := dd_all DX7_silence_0_ok 26 rfl
theorem dX7_silence_60 : decode cX7_silence 60 = .ok (.goto (-40), 3) := dd_all DX7_silence_0_ok 27 rfl
theorem dX7_silence_63 : decode cX7_silence 63 = .ok (.iload_n 1, 1) := dd_all DX7_silence_0_ok 28 rfl
theorem dX7_silence_64 : decode cX7_silence 64 = .ok (.ireturn, 1) := dd_all DX7_silence_0_ok 29 rfl
def DX7_freeIn_0 : List (Nat × Instr × Nat) := [(0, .aload_n 0, 1), (1, .getfield 16, 3), (4, .aload_n 0, 1), (5, .getfield 10, 3), (8, .invokevirtual 212, 3), (11, .iconst 0, 1), (12, .istore_n 1, 1), (13, .iload_n 1, 1), (14, .sipush 200, 3), (17, .if_icmp .gt 28, 3), (20, .aload_n 0, 1), (21, .getfield 16, 3), (24, .invokevirtual 193, 3), (27, .ifCond .le 5, 3), (30, .iload_n 1, 1), (31, .ireturn, 1), (32, .aload_n 0, 1), (33, .getfield 16, 3), (36, .invokevirtual 104, 3), (39, .iinc 1 1, 3), (42, .goto (-29), 3), (45, .bipush (-4), 2), (47, .ireturn, 1)]
theorem DX7_freeIn_0_ok : ∀ q ∈ DX7_freeIn_0, decode cX7_freeIn q.1 = .ok (q.2.1, q.2.2) := by decide +kernel
theorem dX7_freeIn_0 : decode cX7_freeIn 0 = .ok (.aload_n 0, 1) := dd_all DX7_freeIn_0_ok 0 rfl
theorem dX7_freeIn_1 : decode cX7_freeIn 1 = .ok (.getfield 16, 3) := dd_all DX7_freeIn_0_ok 1 rfl
theorem dX7_freeIn_4 : decode cX7_freeIn 4 = .ok (.aload_n 0, 1) := dd_all DX7_freeIn_0_ok 2 rfl
theorem dX7_freeIn_5 : decode cX7_freeIn 5 = .ok (.getfield 10, 3) := dd_all DX7_freeIn_0_ok 3 rfl
theorem dX7_freeIn_8 : decode cX7_freeIn 8 = .ok (.invokevirtual 212, 3) := dd_all DX7_freeIn_0_ok 4 rfl
theorem dX7_freeIn_11 : decode cX7_freeIn 11 = .ok (.iconst 0, 1) := dd_all DX7_freeIn_0_ok 5 rfl
theorem dX7_freeIn_12 : decode cX7_freeIn 12 = .ok (.istore_n 1, 1) := dd_all DX7_freeIn_0_ok 6 rfl
theorem dX7_freeIn_13 : decode cX7_freeIn 13 = .ok (.iload_n 1, 1) := dd_all DX7_freeIn_0_ok 7 rfl
theorem dX7_freeIn_14 : decode cX7_freeIn 14 = .ok (.sipush 200, 3) := dd_all DX7_freeIn_0_ok 8 rfl
theorem dX7_freeIn_17 : decode cX7_freeIn 17 = .ok (.if_icmp .gt 28, 3) := dd_all DX7_freeIn_0_ok 9 rfl
theorem dX7_freeIn_20 : decode cX7_freeIn 20 = .ok (.aload_n 0, 1) := dd_all DX7_freeIn_0_ok 10 rfl
theorem dX7_freeIn_21 : decode cX7_freeIn 21 = .ok (.getfield 16, 3) := dd_all DX7_freeIn_0_ok 11 rfl
theorem dX7_freeIn_24 : decode cX7_freeIn 24 = .ok (.invokevirtual 193, 3) := dd_all DX7_freeIn_0_ok 12 rfl
theorem dX7_freeIn_27 : decode cX7_freeIn 27 = .ok (.ifCond .le 5, 3) := dd_all DX7_freeIn_0_ok 13 rfl
theorem dX7_freeIn_30 : decode cX7_freeIn 30 = .ok (.iload_n 1, 1) := dd_all DX7_freeIn_0_ok 14 rfl
theorem dX7_freeIn_31 : decode cX7_freeIn 31 = .ok (.ireturn, 1) := dd_all DX7_freeIn_0_ok 15 rfl
theorem dX7_freeIn_32 : decode cX7_freeIn 32 = .ok (.aload_n 0, 1) := dd_all DX7_freeIn_0_ok 16 rfl
theorem dX7_freeIn_33 : decode cX7_freeIn 33 = .ok (.getfield 16, 3) := dd_all DX7_freeIn_0_ok 17 rfl
theorem dX7_freeIn_36 : decode cX7_freeIn 36 = .ok (.invokevirtual 104, 3) := dd_all DX7_freeIn_0_ok 18 rfl
theorem dX7_freeIn_39 : decode cX7_freeIn 39 = .ok (.iinc 1 1, 3) := dd_all DX7_freeIn_0_ok 19 rfl
theorem dX7_freeIn_42 : decode cX7_freeIn 42 = .ok (.goto (-29), 3) := dd_all DX7_freeIn_0_ok 20 rfl
theorem dX7_freeIn_45 : decode cX7_freeIn 45 = .ok (.bipush (-4), 2) := dd_all DX7_freeIn_0_ok 21 rfl
theorem dX7_freeIn_47 : decode cX7_freeIn 47 = .ok (.ireturn, 1) := dd_all DX7_freeIn_0_ok 22 rfl
def DX7_undo_0 : List (Nat × Instr × Nat) := [(0, .aload_n 0, 1), (1, .getfield 22, 3), (4, .getfield 205, 3), (7, .ifCond .ne 6, 3), (10, .bipush (-2), 2), (12, .ireturn, 1), (13, .aload_n 0, 1), (14, .getfield 22, 3), (17, .aload_n 0, 1), (18, .getfield 10, 3), (21, .invokevirtual 224, 3), (24, .aload_n 0, 1), (25, .getfield 22, 3), (28, .getfield 205, 3), (31, .ireturn, 1)]
theorem DX7_undo_0_ok : ∀ q ∈ DX7_undo_0, decode cX7_undo q.1 = .ok (q.2.1, q.2.2) := by decide +kernel
theorem dX7_undo_0 : decode cX7_undo 0 = .ok (.aload_n 0, 1) := dd_all DX7_undo_0_ok 0 rfl
theorem dX7_undo_1 : decode cX7_undo 1 = .ok (.getfield 22, 3) := dd_all DX7_undo_0_ok 1 rfl
theorem dX7_undo_4 : decode cX7_undo 4 = .ok (.getfield 205, 3) := dd_all DX7_undo_0_ok 2 rfl
theorem dX7_undo_7 : decode cX7_undo 7 = .ok (.ifCond .ne 6, 3) := dd_all DX7_undo_0_ok 3 rfl
theorem dX7_undo_10 : decode cX7_undo 10 = .ok (.bipush (-2), 2) := dd_all DX7_undo_0_ok 4 rfl
theorem dX7_undo_12 : decode cX7_undo 12 = .ok (.ireturn, 1) := dd_all DX7_undo_0_ok 5 rfl
theorem dX7_undo_13 : decode cX7_undo 13 = .ok (.aload_n 0, 1) := dd_all DX7_undo_0_ok 6 rfl
theorem dX7_undo_14 : decode cX7_undo 14 = .ok (.getfield 22, 3) := dd_all DX7_undo_0_ok 7 rfl
theorem dX7_undo_17 : decode cX7_undo 17 = .ok (.aload_n 0, 1) := dd_all DX7_undo_0_ok 8 rfl
theorem dX7_undo_18 : decode cX7_undo 18 = .ok (.getfield 10, 3) := dd_all DX7_undo_0_ok 9 rfl
theorem dX7_undo_21 : decode cX7_undo 21 = .ok (.invokevirtual 224, 3) := dd_all DX7_undo_0_ok 10 rfl
theorem dX7_undo_24 : decode cX7_undo 24 = .ok (.aload_n 0, 1) := dd_all DX7_undo_0_ok 11 rfl
theorem dX7_undo_25 : decode cX7_undo 25 = .ok (.getfield 22, 3) := dd_all DX7_undo_0_ok 12 rfl
theorem dX7_undo_28 : decode cX7_undo 28 = .ok (.getfield 205, 3) := dd_all DX7_undo_0_ok 13 rfl
theorem dX7_undo_31 : decode cX7_undo 31 = .ok (.ireturn, 1) := dd_all DX7_undo_0_ok 14 rfl
def DX7_type_0 : List (Nat × Instr × Nat) := [(0, .iload_n 1, 1), (1, .bipush 32, 2), (3, .if_icmp .lt 9, 3), (6, .iload_n 1, 1), (7, .bipush 126, 2), (9, .if_icmp .le 5, 3), (12, .iconst (-1), 1), (13, .ireturn, 1), (14, .aload_n 0, 1), (15, .getfield 33, 3), (18, .getfield 206, 3), (21, .bipush 60, 2), (23, .if_icmp .lt 6, 3), (26, .bipush (-3), 2), (28, .ireturn, 1), (29, .aload_n 0, 1), (30, .getfield 33, 3), (33, .iload_n 1, 1), (34, .i2c, 1), (35, .invokevirtual 227, 3), (38, .aload_n 0, 1), (39, .getfield 33, 3), (42, .getfield 206, 3), (45, .ireturn, 1)]
theorem DX7_type_0_ok : ∀ q ∈ DX7_type_0, decode cX7_type q.1 = .ok (q.2.1, q.2.2) := by decide +kernel
theorem dX7_type_0 : decode cX7_type 0 = .ok (.iload_n 1, 1) := dd_all DX7_type_0_ok 0 rfl
theorem dX7_type_1 : decode cX7_type 1 = .ok (.bipush 32, 2) := dd_all DX7_type_0_ok 1 rfl
theorem dX7_type_3 : decode cX7_type 3 = .ok (.if_icmp .lt 9, 3) := dd_all DX7_type_0_ok 2 rfl
theorem dX7_type_6 : decode cX7_type 6 = .ok (.iload_n 1, 1) := dd_all DX7_type_0_ok 3 rfl
theorem dX7_type_7 : decode cX7_type 7 = .ok (.bipush 126, 2) := dd_all DX7_type_0_ok 4 rfl
theorem dX7_type_9 : decode cX7_type 9 = .ok (.if_icmp .le 5, 3) := dd_all DX7_type_0_ok 5 rfl
theorem dX7_type_12 : decode cX7_type 12 = .ok (.iconst (-1), 1) := dd_all DX7_type_0_ok 6 rfl
theorem dX7_type_13 : decode cX7_type 13 = .ok (.ireturn, 1) := dd_all DX7_type_0_ok 7 rfl
theorem dX7_type_14 : decode cX7_type 14 = .ok (.aload_n 0, 1) := dd_all DX7_type_0_ok 8 rfl
theorem dX7_type_15 : decode cX7_type 15 = .ok (.getfield 33, 3) := dd_all DX7_type_0_ok 9 rfl
theorem dX7_type_18 : decode cX7_type 18 = .ok (.getfield 206, 3) := dd_all DX7_type_0_ok 10 rfl
theorem dX7_type_21 : decode cX7_type 21 = .ok (.bipush 60, 2) := dd_all DX7_type_0_ok 11 rfl
theorem dX7_type_23 : decode cX7_type 23 = .ok (.if_icmp .lt 6, 3) := dd_all DX7_type_0_ok 12 rfl
theorem dX7_type_26 : decode cX7_type 26 = .ok (.bipush (-3), 2) := dd_all DX7_type_0_ok 13 rfl
theorem dX7_type_28 : decode cX7_type 28 = .ok (.ireturn, 1) := dd_all DX7_type_0_ok 14 rfl
theorem dX7_type_29 : decode cX7_type 29 = .ok (.aload_n 0, 1) := dd_all DX7_type_0_ok 15 rfl
theorem dX7_type_30 : decode cX7_type 30 = .ok (.getfield 33, 3) := dd_all DX7_type_0_ok 16 rfl
theorem dX7_type_33 : decode cX7_type 33 = .ok (.iload_n 1, 1) := dd_all DX7_type_0_ok 17 rfl
theorem dX7_type_34 : decode cX7_type 34 = .ok (.i2c, 1) := dd_all DX7_type_0_ok 18 rfl
theorem dX7_type_35 : decode cX7_type 35 = .ok (.invokevirtual 227, 3) := dd_all DX7_type_0_ok 19 rfl
theorem dX7_type_38 : decode cX7_type 38 = .ok (.aload_n 0, 1) := dd_all DX7_type_0_ok 20 rfl
theorem dX7_type_39 : decode cX7_type 39 = .ok (.getfield 33, 3) := dd_all DX7_type_0_ok 21 rfl
theorem dX7_type_42 : decode cX7_type 42 = .ok (.getfield 206, 3) := dd_all DX7_type_0_ok 22 rfl
theorem dX7_type_45 : decode cX7_type 45 = .ok (.ireturn, 1) := dd_all DX7_type_0_ok 23 rfl
def DX7_clearText_0 : List (Nat × Instr × Nat) := [(0, .aload_n 0, 1), (1, .getfield 33, 3), (4, .getfield 206, 3), (7, .istore_n 1, 1), (8, .aload_n 0, 1), (9, .getfield 33, 3), (12, .iconst 0, 1), (13, .putfield 206, 3), (16, .iload_n 1, 1), (17, .ireturn, 1)]
theorem DX7_clearText_0_ok : ∀ q ∈ DX7_clearText_0, decode cX7_clearText q.1 = .ok (q.2.1, q.2.2) := by decide +kernel
theorem dX7_clearText_0 : decode cX7_clearText 0 = .ok (.aload_n 0, 1) := dd_all DX7_clearText_0_ok 0 rfl
theorem dX7_clearText_1 : decode cX7_clearText 1 = .ok (.getfield 33, 3) := dd_all DX7_clearText_0_ok 1 rfl
theorem dX7_clearText_4 : decode cX7_clearText 4 = .ok (.getfield 206, 3) := dd_all DX7_clearText_0_ok 2 rfl
theorem dX7_clearText_7 : decode cX7_clearText 7 = .ok (.istore_n 1, 1) := dd_all DX7_clearText_0_ok 3 rfl
theorem dX7_clearText_8 : decode cX7_clearText 8 = .ok (.aload_n 0, 1) := dd_all DX7_clearText_0_ok 4 rfl
theorem dX7_clearText_9 : decode cX7_clearText 9 = .ok (.getfield 33, 3) := dd_all DX7_clearText_0_ok 5 rfl
theorem dX7_clearText_12 : decode cX7_clearText 12 = .ok (.iconst 0, 1) := dd_all DX7_clearText_0_ok 6 rfl
theorem dX7_clearText_13 : decode cX7_clearText 13 = .ok (.putfield 206, 3) := dd_all DX7_clearText_0_ok 7 rfl
theorem dX7_clearText_16 : decode cX7_clearText 16 = .ok (.iload_n 1, 1) := dd_all DX7_clearText_0_ok 8 rfl
theorem dX7_clearText_17 : decode cX7_clearText 17 = .ok (.ireturn, 1) := dd_all DX7_clearText_0_ok 9 rfl
def DX7_fault_0 : List (Nat × Instr × Nat) := [(0, .iload_n 1, 1), (1, .ifCond .lt 8, 3), (4, .iload_n 1, 1), (5, .iconst 1, 1), (6, .if_icmp .le 5, 3), (9, .iconst (-1), 1), (10, .ireturn, 1), (11, .aload_n 0, 1), (12, .getfield 40, 3), (15, .aload_n 0, 1), (16, .getfield 33, 3), (19, .invokevirtual 231, 3), (22, .aload_n 0, 1), (23, .getfield 40, 3), (26, .getfield 235, 3), (29, .ifCond .ne 6, 3), (32, .bipush (-4), 2), (34, .ireturn, 1), (35, .iload_n 1, 1), (36, .ifCond .ne 13, 3), (39, .aload_n 0, 1), (40, .getfield 40, 3), (43, .getfield 238, 3), (46, .goto 10, 3), (49, .aload_n 0, 1), (50, .getfield 40, 3), (53, .getfield 235, 3), (56, .ireturn, 1)]
theorem DX7_fault_0_ok : ∀ q ∈ DX7_fault_0, decode cX7_fault q.1 = .ok (q.2.1, q.2.2) := by decide +kernel
theorem dX7_fault_0 : decode cX7_fault 0 = .ok (.iload_n 1, 1) := dd_all DX7_fault_0_ok 0 rfl
theorem dX7_fault_1 : decode cX7_fault 1 = .ok (.ifCond .lt 8, 3) := dd_all DX7_fault_0_ok 1 rfl
theorem dX7_fault_4 : decode cX7_fault 4 = .ok (.iload_n 1, 1) := dd_all DX7_fault_0_ok 2 rfl
theorem dX7_fault_5 : decode cX7_fault 5 = .ok (.iconst 1, 1) := dd_all DX7_fault_0_ok 3 rfl
theorem dX7_fault_6 : decode cX7_fault 6 = .ok (.if_icmp .le 5, 3) := dd_all DX7_fault_0_ok 4 rfl
theorem dX7_fault_9 : decode cX7_fault 9 = .ok (.iconst (-1), 1) := dd_all DX7_fault_0_ok 5 rfl
theorem dX7_fault_10 : decode cX7_fault 10 = .ok (.ireturn, 1) := dd_all DX7_fault_0_ok 6 rfl
theorem dX7_fault_11 : decode cX7_fault 11 = .ok (.aload_n 0, 1) := dd_all DX7_fault_0_ok 7 rfl
theorem dX7_fault_12 : decode cX7_fault 12 = .ok (.getfield 40, 3) := dd_all DX7_fault_0_ok 8 rfl
theorem dX7_fault_15 : decode cX7_fault 15 = .ok (.aload_n 0, 1) := dd_all DX7_fault_0_ok 9 rfl
theorem dX7_fault_16 : decode cX7_fault 16 = .ok (.getfield 33, 3) := dd_all DX7_fault_0_ok 10 rfl
theorem dX7_fault_19 : decode cX7_fault 19 = .ok (.invokevirtual 231, 3) := dd_all DX7_fault_0_ok 11 rfl
theorem dX7_fault_22 : decode cX7_fault 22 = .ok (.aload_n 0, 1) := dd_all DX7_fault_0_ok 12 rfl
theorem dX7_fault_23 : decode cX7_fault 23 = .ok (.getfield 40, 3) := dd_all DX7_fault_0_ok 13 rfl
theorem dX7_fault_26 : decode cX7_fault 26 = .ok (.getfield 235, 3) := dd_all DX7_fault_0_ok 14 rfl
theorem dX7_fault_29 : decode cX7_fault 29 = .ok (.ifCond .ne 6, 3) := dd_all DX7_fault_0_ok 15 rfl
theorem dX7_fault_32 : decode cX7_fault 32 = .ok (.bipush (-4), 2) := dd_all DX7_fault_0_ok 16 rfl
theorem dX7_fault_34 : decode cX7_fault 34 = .ok (.ireturn, 1) := dd_all DX7_fault_0_ok 17 rfl
theorem dX7_fault_35 : decode cX7_fault 35 = .ok (.iload_n 1, 1) := dd_all DX7_fault_0_ok 18 rfl
theorem dX7_fault_36 : decode cX7_fault 36 = .ok (.ifCond .ne 13, 3) := dd_all DX7_fault_0_ok 19 rfl
theorem dX7_fault_39 : decode cX7_fault 39 = .ok (.aload_n 0, 1) := dd_all DX7_fault_0_ok 20 rfl
theorem dX7_fault_40 : decode cX7_fault 40 = .ok (.getfield 40, 3) := dd_all DX7_fault_0_ok 21 rfl
theorem dX7_fault_43 : decode cX7_fault 43 = .ok (.getfield 238, 3) := dd_all DX7_fault_0_ok 22 rfl
theorem dX7_fault_46 : decode cX7_fault 46 = .ok (.goto 10, 3) := dd_all DX7_fault_0_ok 23 rfl
theorem dX7_fault_49 : decode cX7_fault 49 = .ok (.aload_n 0, 1) := dd_all DX7_fault_0_ok 24 rfl
theorem dX7_fault_50 : decode cX7_fault 50 = .ok (.getfield 40, 3) := dd_all DX7_fault_0_ok 25 rfl
theorem dX7_fault_53 : decode cX7_fault 53 = .ok (.getfield 235, 3) := dd_all DX7_fault_0_ok 26 rfl
theorem dX7_fault_56 : decode cX7_fault 56 = .ok (.ireturn, 1) := dd_all DX7_fault_0_ok 27 rfl
def DX7_adopt_0 : List (Nat × Instr × Nat) := [(0, .aload_n 0, 1), (1, .getfield 40, 3), (4, .aload_n 0, 1), (5, .getfield 33, 3), (8, .invokevirtual 231, 3), (11, .aload_n 0, 1), (12, .getfield 40, 3), (15, .getfield 235, 3), (18, .ifCond .eq 6, 3), (21, .bipush (-2), 2), (23, .ireturn, 1), (24, .aload_n 0, 1), (25, .getfield 22, 3), (28, .aload_n 0, 1), (29, .getfield 10, 3), (32, .invokevirtual 70, 3), (35, .aload_n 0, 1), (36, .getfield 10, 3), (39, .getfield 241, 3), (42, .aload_n 0, 1), (43, .getfield 33, 3), (46, .invokevirtual 244, 3), (49, .aload_n 0, 1), (50, .getfield 10, 3), (53, .getfield 241, 3), (56, .invokevirtual 246, 3), (59, .ireturn, 1)]
theorem DX7_adopt_0_ok : ∀ q ∈ DX7_adopt_0, decode cX7_adopt q.1 = .ok (q.2.1, q.2.2) := by decide +kernel
theorem dX7_adopt_0 : decode cX7_adopt 0 = .ok (.aload_n 0, 1) := dd_all DX7_adopt_0_ok 0 rfl
theorem dX7_adopt_1 : decode cX7_adopt 1 = .ok (.getfield 40, 3) := dd_all DX7_adopt_0_ok 1 rfl
theorem dX7_adopt_4 : decode cX7_adopt 4 = .ok (.aload_n 0, 1) := dd_all DX7_adopt_0_ok 2 rfl
theorem dX7_adopt_5 : decode cX7_adopt 5 = .ok (.getfield 33, 3) := dd_all DX7_adopt_0_ok 3 rfl
theorem dX7_adopt_8 : decode cX7_adopt 8 = .ok (.invokevirtual 231, 3) := dd_all DX7_adopt_0_ok 4 rfl
theorem dX7_adopt_11 : decode cX7_adopt 11 = .ok (.aload_n 0, 1) := dd_all DX7_adopt_0_ok 5 rfl
theorem dX7_adopt_12 : decode cX7_adopt 12 = .ok (.getfield 40, 3) := dd_all DX7_adopt_0_ok 6 rfl
theorem dX7_adopt_15 : decode cX7_adopt 15 = .ok (.getfield 235, 3) := dd_all DX7_adopt_0_ok 7 rfl
theorem dX7_adopt_18 : decode cX7_adopt 18 = .ok (.ifCond .eq 6, 3) := dd_all DX7_adopt_0_ok 8 rfl
theorem dX7_adopt_21 : decode cX7_adopt 21 = .ok (.bipush (-2), 2) := dd_all DX7_adopt_0_ok 9 rfl
theorem dX7_adopt_23 : decode cX7_adopt 23 = .ok (.ireturn, 1) := dd_all DX7_adopt_0_ok 10 rfl
theorem dX7_adopt_24 : decode cX7_adopt 24 = .ok (.aload_n 0, 1) := dd_all DX7_adopt_0_ok 11 rfl
theorem dX7_adopt_25 : decode cX7_adopt 25 = .ok (.getfield 22, 3) := dd_all DX7_adopt_0_ok 12 rfl
theorem dX7_adopt_28 : decode cX7_adopt 28 = .ok (.aload_n 0, 1) := dd_all DX7_adopt_0_ok 13 rfl
theorem dX7_adopt_29 : decode cX7_adopt 29 = .ok (.getfield 10, 3) := dd_all DX7_adopt_0_ok 14 rfl
theorem dX7_adopt_32 : decode cX7_adopt 32 = .ok (.invokevirtual 70, 3) := dd_all DX7_adopt_0_ok 15 rfl
theorem dX7_adopt_35 : decode cX7_adopt 35 = .ok (.aload_n 0, 1) := dd_all DX7_adopt_0_ok 16 rfl
theorem dX7_adopt_36 : decode cX7_adopt 36 = .ok (.getfield 10, 3) := dd_all DX7_adopt_0_ok 17 rfl
theorem dX7_adopt_39 : decode cX7_adopt 39 = .ok (.getfield 241, 3) := dd_all DX7_adopt_0_ok 18 rfl
theorem dX7_adopt_42 : decode cX7_adopt 42 = .ok (.aload_n 0, 1) := dd_all DX7_adopt_0_ok 19 rfl
theorem dX7_adopt_43 : decode cX7_adopt 43 = .ok (.getfield 33, 3) := dd_all DX7_adopt_0_ok 20 rfl
theorem dX7_adopt_46 : decode cX7_adopt 46 = .ok (.invokevirtual 244, 3) := dd_all DX7_adopt_0_ok 21 rfl
theorem dX7_adopt_49 : decode cX7_adopt 49 = .ok (.aload_n 0, 1) := dd_all DX7_adopt_0_ok 22 rfl
theorem dX7_adopt_50 : decode cX7_adopt 50 = .ok (.getfield 10, 3) := dd_all DX7_adopt_0_ok 23 rfl
theorem dX7_adopt_53 : decode cX7_adopt 53 = .ok (.getfield 241, 3) := dd_all DX7_adopt_0_ok 24 rfl
theorem dX7_adopt_56 : decode cX7_adopt 56 = .ok (.invokevirtual 246, 3) := dd_all DX7_adopt_0_ok 25 rfl
theorem dX7_adopt_59 : decode cX7_adopt 59 = .ok (.ireturn, 1) := dd_all DX7_adopt_0_ok 26 rfl
def DX7_mix_0 : List (Nat × Instr × Nat) := [(0, .iconst 0, 1), (1, .istore_n 1, 1), (2, .iload_n 1, 1), (3, .iconst 4, 1), (4, .if_icmp .ge 25, 3), (7, .aload_n 0, 1), (8, .getfield 51, 3), (11, .iload_n 1, 1), (12, .aload_n 0, 1), (13, .getfield 10, 3), (16, .iload_n 1, 1), (17, .invokevirtual 189, 3), (20, .invokestatic 124, 3), (23, .iinc 1 1, 3), (26, .goto (-24), 3), (29, .aload_n 0, 1), (30, .getfield 47, 3), (33, .aload_n 0, 1), (34, .getfield 10, 3), (37, .getfield 241, 3), (40, .aload_n 0, 1), (41, .getfield 51, 3), (44, .invokevirtual 249, 3), (47, .ireturn, 1)]
theorem DX7_mix_0_ok : ∀ q ∈ DX7_mix_0, decode cX7_mix q.1 = .ok (q.2.1, q.2.2) := by decide +kernel
theorem dX7_mix_0 : decode cX7_mix 0 = .ok (.iconst 0, 1) := dd_all DX7_mix_0_ok 0 rfl
theorem dX7_mix_1 : decode cX7_mix 1 = .ok (.istore_n 1, 1) := dd_all DX7_mix_0_ok 1 rfl
theorem dX7_mix_2 : decode cX7_mix 2 = .ok (.iload_n 1, 1) := dd_all DX7_mix_0_ok 2 rfl
theorem dX7_mix_3 : decode cX7_mix 3 = .ok (.iconst 4, 1) := dd_all DX7_mix_0_ok 3 rfl
theorem dX7_mix_4 : decode cX7_mix 4 = .ok (.if_icmp .ge 25, 3) := dd_all DX7_mix_0_ok 4 rfl
theorem dX7_mix_7 : decode cX7_mix 7 = .ok (.aload_n 0, 1) := dd_all DX7_mix_0_ok 5 rfl
theorem dX7_mix_8 : decode cX7_mix 8 = .ok (.getfield 51, 3) := dd_all DX7_mix_0_ok 6 rfl
theorem dX7_mix_11 : decode cX7_mix 11 = .ok (.iload_n 1, 1) := dd_all DX7_mix_0_ok 7 rfl
theorem dX7_mix_12 : decode cX7_mix 12 = .ok (.aload_n 0, 1) := dd_all DX7_mix_0_ok 8 rfl
theorem dX7_mix_13 : decode cX7_mix 13 = .ok (.getfield 10, 3) := dd_all DX7_mix_0_ok 9 rfl
theorem dX7_mix_16 : decode cX7_mix 16 = .ok (.iload_n 1, 1) := dd_all DX7_mix_0_ok 10 rfl
theorem dX7_mix_17 : decode cX7_mix 17 = .ok (.invokevirtual 189, 3) := dd_all DX7_mix_0_ok 11 rfl
theorem dX7_mix_20 : decode cX7_mix 20 = .ok (.invokestatic 124, 3) := dd_all DX7_mix_0_ok 12 rfl
theorem dX7_mix_23 : decode cX7_mix 23 = .ok (.iinc 1 1, 3) := dd_all DX7_mix_0_ok 13 rfl
theorem dX7_mix_26 : decode cX7_mix 26 = .ok (.goto (-24), 3) := dd_all DX7_mix_0_ok 14 rfl
theorem dX7_mix_29 : decode cX7_mix 29 = .ok (.aload_n 0, 1) := dd_all DX7_mix_0_ok 15 rfl
theorem dX7_mix_30 : decode cX7_mix 30 = .ok (.getfield 47, 3) := dd_all DX7_mix_0_ok 16 rfl
theorem dX7_mix_33 : decode cX7_mix 33 = .ok (.aload_n 0, 1) := dd_all DX7_mix_0_ok 17 rfl
theorem dX7_mix_34 : decode cX7_mix 34 = .ok (.getfield 10, 3) := dd_all DX7_mix_0_ok 18 rfl
theorem dX7_mix_37 : decode cX7_mix 37 = .ok (.getfield 241, 3) := dd_all DX7_mix_0_ok 19 rfl
theorem dX7_mix_40 : decode cX7_mix 40 = .ok (.aload_n 0, 1) := dd_all DX7_mix_0_ok 20 rfl
theorem dX7_mix_41 : decode cX7_mix 41 = .ok (.getfield 51, 3) := dd_all DX7_mix_0_ok 21 rfl
theorem dX7_mix_44 : decode cX7_mix 44 = .ok (.invokevirtual 249, 3) := dd_all DX7_mix_0_ok 22 rfl
theorem dX7_mix_47 : decode cX7_mix 47 = .ok (.ireturn, 1) := dd_all DX7_mix_0_ok 23 rfl
def DX7_alone_0 : List (Nat × Instr × Nat) := [(0, .iload_n 1, 1), (1, .ifCond .lt 8, 3), (4, .iload_n 1, 1), (5, .iconst 1, 1), (6, .if_icmp .le 5, 3), (9, .iconst (-1), 1), (10, .ireturn, 1), (11, .iconst 0, 1), (12, .istore_n 2, 1), (13, .iconst 0, 1), (14, .istore_n 3, 1), (15, .iconst (-1), 1), (16, .istore 4, 2), (18, .iconst 0, 1), (19, .istore 5, 2), (21, .iload 5, 2), (23, .iconst 4, 1), (24, .if_icmp .ge 38, 3), (27, .aload_n 0, 1), (28, .iload 5, 2), (30, .invokevirtual 253, 3), (33, .istore 6, 2), (35, .iload 6, 2), (37, .ifCond .le 6, 3), (40, .iinc 2 1, 3), (43, .iload 6, 2), (45, .iload_n 3, 1), (46, .if_icmp .le 10, 3), (49, .iload 6, 2), (51, .istore_n 3, 1), (52, .iload 5, 2), (54, .istore 4, 2), (56, .iinc 5 1, 3), (59, .goto (-38), 3), (62, .iload_n 1, 1), (63, .ifCond .ne 7, 3), (66, .iload_n 2, 1), (67, .goto 8, 3), (70, .iload 4, 2), (72, .invokestatic 170, 3)]
theorem DX7_alone_0_ok : ∀ q ∈ DX7_alone_0, decode cX7_alone q.1 = .ok (q.2.1, q.2.2) := by decide +kernel
theorem dX7_alone_0 : decode cX7_alone 0 = .ok (.iload_n 1, 1) := dd_all DX7_alone_0_ok 0 rfl
theorem dX7_alone_1 : decode cX7_alone 1 = .ok (.ifCond .lt 8, 3) := dd_all DX7_alone_0_ok 1 rfl
theorem dX7_alone_4 : decode cX7_alone 4 = .ok (.iload_n 1, 1) := dd_all DX7_alone_0_ok 2 rfl
theorem dX7_alone_5 : decode cX7_alone 5 = .ok (.iconst 1, 1) := dd_all DX7_alone_0_ok 3 rfl
theorem dX7_alone_6 : decode cX7_alone 6 = .ok (.if_icmp .le 5, 3) := dd_all DX7_alone_0_ok 4 rfl
theorem dX7_alone_9 : decode cX7_alone 9 = .ok (.iconst (-1), 1) := dd_all DX7_alone_0_ok 5 rfl
theorem dX7_alone_10 : decode cX7_alone 10 = .ok (.ireturn, 1) := dd_all DX7_alone_0_ok 6 rfl
theorem dX7_alone_11 : decode cX7_alone 11 = .ok (.iconst 0, 1) := dd_all DX7_alone_0_ok 7 rfl
theorem dX7_alone_12 : decode cX7_alone 12 = .ok (.istore_n 2, 1) := dd_all DX7_alone_0_ok 8 rfl
theorem dX7_alone_13 : decode cX7_alone 13 = .ok (.iconst 0, 1) := dd_all DX7_alone_0_ok 9 rfl
theorem dX7_alone_14 : decode cX7_alone 14 = .ok (.istore_n 3, 1) := dd_all DX7_alone_0_ok 10 rfl
theorem dX7_alone_15 : decode cX7_alone 15 = .ok (.iconst (-1), 1) := dd_all DX7_alone_0_ok 11 rfl
theorem dX7_alone_16 : decode cX7_alone 16 = .ok (.istore 4, 2) := dd_all DX7_alone_0_ok 12 rfl
theorem dX7_alone_18 : decode cX7_alone 18 = .ok (.iconst 0, 1) := dd_all DX7_alone_0_ok 13 rfl
theorem dX7_alone_19 : decode cX7_alone 19 = .ok (.istore 5, 2) := dd_all DX7_alone_0_ok 14 rfl
theorem dX7_alone_21 : decode cX7_alone 21 = .ok (.iload 5, 2) := dd_all DX7_alone_0_ok 15 rfl
theorem dX7_alone_23 : decode cX7_alone 23 = .ok (.iconst 4, 1) := dd_all DX7_alone_0_ok 16 rfl
theorem dX7_alone_24 : decode cX7_alone 24 = .ok (.if_icmp .ge 38, 3) := dd_all DX7_alone_0_ok 17 rfl
theorem dX7_alone_27 : decode cX7_alone 27 = .ok (.aload_n 0, 1) := dd_all DX7_alone_0_ok 18 rfl
theorem dX7_alone_28 : decode cX7_alone 28 = .ok (.iload 5, 2) := dd_all DX7_alone_0_ok 19 rfl
theorem dX7_alone_30 : decode cX7_alone 30 = .ok (.invokevirtual 253, 3) := dd_all DX7_alone_0_ok 20 rfl
theorem dX7_alone_33 : decode cX7_alone 33 = .ok (.istore 6, 2) := dd_all DX7_alone_0_ok 21 rfl
theorem dX7_alone_35 : decode cX7_alone 35 = .ok (.iload 6, 2) := dd_all DX7_alone_0_ok 22 rfl
theorem dX7_alone_37 : decode cX7_alone 37 = .ok (.ifCond .le 6, 3) := dd_all DX7_alone_0_ok 23 rfl
theorem dX7_alone_40 : decode cX7_alone 40 = .ok (.iinc 2 1, 3) := dd_all DX7_alone_0_ok 24 rfl
theorem dX7_alone_43 : decode cX7_alone 43 = .ok (.iload 6, 2) := dd_all DX7_alone_0_ok 25 rfl
theorem dX7_alone_45 : decode cX7_alone 45 = .ok (.iload_n 3, 1) := dd_all DX7_alone_0_ok 26 rfl
theorem dX7_alone_46 : decode cX7_alone 46 = .ok (.if_icmp .le 10, 3) := dd_all DX7_alone_0_ok 27 rfl
theorem dX7_alone_49 : decode cX7_alone 49 = .ok (.iload 6, 2) := dd_all DX7_alone_0_ok 28 rfl
theorem dX7_alone_51 : decode cX7_alone 51 = .ok (.istore_n 3, 1) := dd_all DX7_alone_0_ok 29 rfl
theorem dX7_alone_52 : decode cX7_alone 52 = .ok (.iload 5, 2) := dd_all DX7_alone_0_ok 30 rfl
theorem dX7_alone_54 : decode cX7_alone 54 = .ok (.istore 4, 2) := dd_all DX7_alone_0_ok 31 rfl
theorem dX7_alone_56 : decode cX7_alone 56 = .ok (.iinc 5 1, 3) := dd_all DX7_alone_0_ok 32 rfl
theorem dX7_alone_59 : decode cX7_alone 59 = .ok (.goto (-38), 3) := dd_all DX7_alone_0_ok 33 rfl
theorem dX7_alone_62 : decode cX7_alone 62 = .ok (.iload_n 1, 1) := dd_all DX7_alone_0_ok 34 rfl
theorem dX7_alone_63 : decode cX7_alone 63 = .ok (.ifCond .ne 7, 3) := dd_all DX7_alone_0_ok 35 rfl
theorem dX7_alone_66 : decode cX7_alone 66 = .ok (.iload_n 2, 1) := dd_all DX7_alone_0_ok 36 rfl
theorem dX7_alone_67 : decode cX7_alone 67 = .ok (.goto 8, 3) := dd_all DX7_alone_0_ok 37 rfl
theorem dX7_alone_70 : decode cX7_alone 70 = .ok (.iload 4, 2) := dd_all DX7_alone_0_ok 38 rfl
theorem dX7_alone_72 : decode cX7_alone 72 = .ok (.invokestatic 170, 3) := dd_all DX7_alone_0_ok 39 rfl
def DX7_alone_40 : List (Nat × Instr × Nat) := [(75, .ireturn, 1)]
theorem DX7_alone_40_ok : ∀ q ∈ DX7_alone_40, decode cX7_alone q.1 = .ok (q.2.1, q.2.2) := by decide +kernel
theorem dX7_alone_75 : decode cX7_alone 75 = .ok (.ireturn, 1) := dd_all DX7_alone_40_ok 0 rfl
def DX7_madeAlone_0 : List (Nat × Instr × Nat) := [(0, .iconst 0, 1), (1, .istore_n 2, 1), (2, .iload_n 2, 1), (3, .iconst 4, 1), (4, .if_icmp .ge 34, 3), (7, .aload_n 0, 1), (8, .getfield 51, 3), (11, .iload_n 2, 1), (12, .iload_n 2, 1), (13, .iload_n 1, 1), (14, .if_icmp .ne 14, 3), (17, .aload_n 0, 1), (18, .getfield 10, 3), (21, .iload_n 1, 1), (22, .invokevirtual 189, 3), (25, .goto 4, 3), (28, .iconst 0, 1), (29, .invokestatic 124, 3), (32, .iinc 2 1, 3), (35, .goto (-33), 3), (38, .aload_n 0, 1), (39, .getfield 47, 3), (42, .aload_n 0, 1), (43, .getfield 10, 3), (46, .getfield 241, 3), (49, .aload_n 0, 1), (50, .getfield 51, 3), (53, .invokevirtual 249, 3), (56, .ireturn, 1)]
theorem DX7_madeAlone_0_ok : ∀ q ∈ DX7_madeAlone_0, decode cX7_madeAlone q.1 = .ok (q.2.1, q.2.2) := by decide +kernel
theorem dX7_madeAlone_0 : decode cX7_madeAlone 0 = .ok (.iconst 0, 1) := dd_all DX7_madeAlone_0_ok 0 rfl
theorem dX7_madeAlone_1 : decode cX7_madeAlone 1 = .ok (.istore_n 2, 1) := dd_all DX7_madeAlone_0_ok 1 rfl
theorem dX7_madeAlone_2 : decode cX7_madeAlone 2 = .ok (.iload_n 2, 1) := dd_all DX7_madeAlone_0_ok 2 rfl
theorem dX7_madeAlone_3 : decode cX7_madeAlone 3 = .ok (.iconst 4, 1) := dd_all DX7_madeAlone_0_ok 3 rfl
theorem dX7_madeAlone_4 : decode cX7_madeAlone 4 = .ok (.if_icmp .ge 34, 3) := dd_all DX7_madeAlone_0_ok 4 rfl
theorem dX7_madeAlone_7 : decode cX7_madeAlone 7 = .ok (.aload_n 0, 1) := dd_all DX7_madeAlone_0_ok 5 rfl
theorem dX7_madeAlone_8 : decode cX7_madeAlone 8 = .ok (.getfield 51, 3) := dd_all DX7_madeAlone_0_ok 6 rfl
theorem dX7_madeAlone_11 : decode cX7_madeAlone 11 = .ok (.iload_n 2, 1) := dd_all DX7_madeAlone_0_ok 7 rfl
theorem dX7_madeAlone_12 : decode cX7_madeAlone 12 = .ok (.iload_n 2, 1) := dd_all DX7_madeAlone_0_ok 8 rfl
theorem dX7_madeAlone_13 : decode cX7_madeAlone 13 = .ok (.iload_n 1, 1) := dd_all DX7_madeAlone_0_ok 9 rfl
theorem dX7_madeAlone_14 : decode cX7_madeAlone 14 = .ok (.if_icmp .ne 14, 3) := dd_all DX7_madeAlone_0_ok 10 rfl
theorem dX7_madeAlone_17 : decode cX7_madeAlone 17 = .ok (.aload_n 0, 1) := dd_all DX7_madeAlone_0_ok 11 rfl
theorem dX7_madeAlone_18 : decode cX7_madeAlone 18 = .ok (.getfield 10, 3) := dd_all DX7_madeAlone_0_ok 12 rfl
theorem dX7_madeAlone_21 : decode cX7_madeAlone 21 = .ok (.iload_n 1, 1) := dd_all DX7_madeAlone_0_ok 13 rfl
theorem dX7_madeAlone_22 : decode cX7_madeAlone 22 = .ok (.invokevirtual 189, 3) := dd_all DX7_madeAlone_0_ok 14 rfl
theorem dX7_madeAlone_25 : decode cX7_madeAlone 25 = .ok (.goto 4, 3) := dd_all DX7_madeAlone_0_ok 15 rfl
theorem dX7_madeAlone_28 : decode cX7_madeAlone 28 = .ok (.iconst 0, 1) := dd_all DX7_madeAlone_0_ok 16 rfl
theorem dX7_madeAlone_29 : decode cX7_madeAlone 29 = .ok (.invokestatic 124, 3) := dd_all DX7_madeAlone_0_ok 17 rfl
theorem dX7_madeAlone_32 : decode cX7_madeAlone 32 = .ok (.iinc 2 1, 3) := dd_all DX7_madeAlone_0_ok 18 rfl
theorem dX7_madeAlone_35 : decode cX7_madeAlone 35 = .ok (.goto (-33), 3) := dd_all DX7_madeAlone_0_ok 19 rfl
theorem dX7_madeAlone_38 : decode cX7_madeAlone 38 = .ok (.aload_n 0, 1) := dd_all DX7_madeAlone_0_ok 20 rfl
theorem dX7_madeAlone_39 : decode cX7_madeAlone 39 = .ok (.getfield 47, 3) := dd_all DX7_madeAlone_0_ok 21 rfl
theorem dX7_madeAlone_42 : decode cX7_madeAlone 42 = .ok (.aload_n 0, 1) := dd_all DX7_madeAlone_0_ok 22 rfl
theorem dX7_madeAlone_43 : decode cX7_madeAlone 43 = .ok (.getfield 10, 3) := dd_all DX7_madeAlone_0_ok 23 rfl
theorem dX7_madeAlone_46 : decode cX7_madeAlone 46 = .ok (.getfield 241, 3) := dd_all DX7_madeAlone_0_ok 24 rfl
theorem dX7_madeAlone_49 : decode cX7_madeAlone 49 = .ok (.aload_n 0, 1) := dd_all DX7_madeAlone_0_ok 25 rfl
theorem dX7_madeAlone_50 : decode cX7_madeAlone 50 = .ok (.getfield 51, 3) := dd_all DX7_madeAlone_0_ok 26 rfl
theorem dX7_madeAlone_53 : decode cX7_madeAlone 53 = .ok (.invokevirtual 249, 3) := dd_all DX7_madeAlone_0_ok 27 rfl
theorem dX7_madeAlone_56 : decode cX7_madeAlone 56 = .ok (.ireturn, 1) := dd_all DX7_madeAlone_0_ok 28 rfl
def DX7_isPart_0 : List (Nat × Instr × Nat) := [(0, .iload_n 0, 1), (1, .ifCond .lt 12, 3), (4, .iload_n 0, 1), (5, .iconst 4, 1), (6, .if_icmp .ge 7, 3), (9, .iconst 1, 1), (10, .goto 4, 3), (13, .iconst 0, 1), (14, .ireturn, 1)]
theorem DX7_isPart_0_ok : ∀ q ∈ DX7_isPart_0, decode cX7_isPart q.1 = .ok (q.2.1, q.2.2) := by decide +kernel
theorem dX7_isPart_0 : decode cX7_isPart 0 = .ok (.iload_n 0, 1) := dd_all DX7_isPart_0_ok 0 rfl
theorem dX7_isPart_1 : decode cX7_isPart 1 = .ok (.ifCond .lt 12, 3) := dd_all DX7_isPart_0_ok 1 rfl
theorem dX7_isPart_4 : decode cX7_isPart 4 = .ok (.iload_n 0, 1) := dd_all DX7_isPart_0_ok 2 rfl
theorem dX7_isPart_5 : decode cX7_isPart 5 = .ok (.iconst 4, 1) := dd_all DX7_isPart_0_ok 3 rfl
theorem dX7_isPart_6 : decode cX7_isPart 6 = .ok (.if_icmp .ge 7, 3) := dd_all DX7_isPart_0_ok 4 rfl
theorem dX7_isPart_9 : decode cX7_isPart 9 = .ok (.iconst 1, 1) := dd_all DX7_isPart_0_ok 5 rfl
theorem dX7_isPart_10 : decode cX7_isPart 10 = .ok (.goto 4, 3) := dd_all DX7_isPart_0_ok 6 rfl
theorem dX7_isPart_13 : decode cX7_isPart 13 = .ok (.iconst 0, 1) := dd_all DX7_isPart_0_ok 7 rfl
theorem dX7_isPart_14 : decode cX7_isPart 14 = .ok (.ireturn, 1) := dd_all DX7_isPart_0_ok 8 rfl
def DX7_isPitch_0 : List (Nat × Instr × Nat) := [(0, .iload_n 0, 1), (1, .ifCond .lt 13, 3), (4, .iload_n 0, 1), (5, .bipush 127, 2), (7, .if_icmp .gt 7, 3), (10, .iconst 1, 1), (11, .goto 4, 3), (14, .iconst 0, 1), (15, .ireturn, 1)]
theorem DX7_isPitch_0_ok : ∀ q ∈ DX7_isPitch_0, decode cX7_isPitch q.1 = .ok (q.2.1, q.2.2) := by decide +kernel
theorem dX7_isPitch_0 : decode cX7_isPitch 0 = .ok (.iload_n 0, 1) := dd_all DX7_isPitch_0_ok 0 rfl
theorem dX7_isPitch_1 : decode cX7_isPitch 1 = .ok (.ifCond .lt 13, 3) := dd_all DX7_isPitch_0_ok 1 rfl
theorem dX7_isPitch_4 : decode cX7_isPitch 4 = .ok (.iload_n 0, 1) := dd_all DX7_isPitch_0_ok 2 rfl
theorem dX7_isPitch_5 : decode cX7_isPitch 5 = .ok (.bipush 127, 2) := dd_all DX7_isPitch_0_ok 3 rfl
theorem dX7_isPitch_7 : decode cX7_isPitch 7 = .ok (.if_icmp .gt 7, 3) := dd_all DX7_isPitch_0_ok 4 rfl
theorem dX7_isPitch_10 : decode cX7_isPitch 10 = .ok (.iconst 1, 1) := dd_all DX7_isPitch_0_ok 5 rfl
theorem dX7_isPitch_11 : decode cX7_isPitch 11 = .ok (.goto 4, 3) := dd_all DX7_isPitch_0_ok 6 rfl
theorem dX7_isPitch_14 : decode cX7_isPitch 14 = .ok (.iconst 0, 1) := dd_all DX7_isPitch_0_ok 7 rfl
theorem dX7_isPitch_15 : decode cX7_isPitch 15 = .ok (.ireturn, 1) := dd_all DX7_isPitch_0_ok 8 rfl
def DX7_orNotFound_0 : List (Nat × Instr × Nat) := [(0, .iload_n 0, 1), (1, .iconst (-1), 1), (2, .if_icmp .ne 8, 3), (5, .bipush (-4), 2), (7, .goto 4, 3), (10, .iload_n 0, 1), (11, .ireturn, 1)]
theorem DX7_orNotFound_0_ok : ∀ q ∈ DX7_orNotFound_0, decode cX7_orNotFound q.1 = .ok (q.2.1, q.2.2) := by decide +kernel
theorem dX7_orNotFound_0 : decode cX7_orNotFound 0 = .ok (.iload_n 0, 1) := dd_all DX7_orNotFound_0_ok 0 rfl
theorem dX7_orNotFound_1 : decode cX7_orNotFound 1 = .ok (.iconst (-1), 1) := dd_all DX7_orNotFound_0_ok 1 rfl
theorem dX7_orNotFound_2 : decode cX7_orNotFound 2 = .ok (.if_icmp .ne 8, 3) := dd_all DX7_orNotFound_0_ok 2 rfl
theorem dX7_orNotFound_5 : decode cX7_orNotFound 5 = .ok (.bipush (-4), 2) := dd_all DX7_orNotFound_0_ok 3 rfl
theorem dX7_orNotFound_7 : decode cX7_orNotFound 7 = .ok (.goto 4, 3) := dd_all DX7_orNotFound_0_ok 4 rfl
theorem dX7_orNotFound_10 : decode cX7_orNotFound 10 = .ok (.iload_n 0, 1) := dd_all DX7_orNotFound_0_ok 5 rfl
theorem dX7_orNotFound_11 : decode cX7_orNotFound 11 = .ok (.ireturn, 1) := dd_all DX7_orNotFound_0_ok 6 rfl
def DX7_at_0 : List (Nat × Instr × Nat) := [(0, .iload_n 1, 1), (1, .ifCond .lt 15, 3), (4, .iload_n 1, 1), (5, .aload_n 0, 1), (6, .arraylength, 1), (7, .if_icmp .ge 9, 3), (10, .aload_n 0, 1), (11, .iload_n 1, 1), (12, .iaload, 1), (13, .goto 4, 3), (16, .iconst 0, 1), (17, .ireturn, 1)]
theorem DX7_at_0_ok : ∀ q ∈ DX7_at_0, decode cX7_at q.1 = .ok (q.2.1, q.2.2) := by decide +kernel
theorem dX7_at_0 : decode cX7_at 0 = .ok (.iload_n 1, 1) := dd_all DX7_at_0_ok 0 rfl
theorem dX7_at_1 : decode cX7_at 1 = .ok (.ifCond .lt 15, 3) := dd_all DX7_at_0_ok 1 rfl
theorem dX7_at_4 : decode cX7_at 4 = .ok (.iload_n 1, 1) := dd_all DX7_at_0_ok 2 rfl
theorem dX7_at_5 : decode cX7_at 5 = .ok (.aload_n 0, 1) := dd_all DX7_at_0_ok 3 rfl
theorem dX7_at_6 : decode cX7_at 6 = .ok (.arraylength, 1) := dd_all DX7_at_0_ok 4 rfl
theorem dX7_at_7 : decode cX7_at 7 = .ok (.if_icmp .ge 9, 3) := dd_all DX7_at_0_ok 5 rfl
theorem dX7_at_10 : decode cX7_at 10 = .ok (.aload_n 0, 1) := dd_all DX7_at_0_ok 6 rfl
theorem dX7_at_11 : decode cX7_at 11 = .ok (.iload_n 1, 1) := dd_all DX7_at_0_ok 7 rfl
theorem dX7_at_12 : decode cX7_at 12 = .ok (.iaload, 1) := dd_all DX7_at_0_ok 8 rfl
theorem dX7_at_13 : decode cX7_at 13 = .ok (.goto 4, 3) := dd_all DX7_at_0_ok 9 rfl
theorem dX7_at_16 : decode cX7_at 16 = .ok (.iconst 0, 1) := dd_all DX7_at_0_ok 10 rfl
theorem dX7_at_17 : decode cX7_at 17 = .ok (.ireturn, 1) := dd_all DX7_at_0_ok 11 rfl
def DX7_put_0 : List (Nat × Instr × Nat) := [(0, .iload_n 1, 1), (1, .ifCond .lt 13, 3), (4, .iload_n 1, 1), (5, .aload_n 0, 1), (6, .arraylength, 1), (7, .if_icmp .ge 7, 3), (10, .aload_n 0, 1), (11, .iload_n 1, 1), (12, .iload_n 2, 1), (13, .iastore, 1), (14, .return_, 1)]
theorem DX7_put_0_ok : ∀ q ∈ DX7_put_0, decode cX7_put q.1 = .ok (q.2.1, q.2.2) := by decide +kernel
theorem dX7_put_0 : decode cX7_put 0 = .ok (.iload_n 1, 1) := dd_all DX7_put_0_ok 0 rfl
theorem dX7_put_1 : decode cX7_put 1 = .ok (.ifCond .lt 13, 3) := dd_all DX7_put_0_ok 1 rfl
theorem dX7_put_4 : decode cX7_put 4 = .ok (.iload_n 1, 1) := dd_all DX7_put_0_ok 2 rfl
theorem dX7_put_5 : decode cX7_put 5 = .ok (.aload_n 0, 1) := dd_all DX7_put_0_ok 3 rfl
theorem dX7_put_6 : decode cX7_put 6 = .ok (.arraylength, 1) := dd_all DX7_put_0_ok 4 rfl
theorem dX7_put_7 : decode cX7_put 7 = .ok (.if_icmp .ge 7, 3) := dd_all DX7_put_0_ok 5 rfl
theorem dX7_put_10 : decode cX7_put 10 = .ok (.aload_n 0, 1) := dd_all DX7_put_0_ok 6 rfl
theorem dX7_put_11 : decode cX7_put 11 = .ok (.iload_n 1, 1) := dd_all DX7_put_0_ok 7 rfl
theorem dX7_put_12 : decode cX7_put 12 = .ok (.iload_n 2, 1) := dd_all DX7_put_0_ok 8 rfl
theorem dX7_put_13 : decode cX7_put 13 = .ok (.iastore, 1) := dd_all DX7_put_0_ok 9 rfl
theorem dX7_put_14 : decode cX7_put 14 = .ok (.return_, 1) := dd_all DX7_put_0_ok 10 rfl
def DX7_copyRow_0 : List (Nat × Instr × Nat) := [(0, .iload_n 2, 1), (1, .ifCond .le 23, 3), (4, .iload_n 2, 1), (5, .aload_n 0, 1), (6, .arraylength, 1), (7, .if_icmp .gt 17, 3), (10, .iload_n 2, 1), (11, .aload_n 1, 1), (12, .arraylength, 1), (13, .if_icmp .gt 11, 3), (16, .aload_n 0, 1), (17, .iconst 0, 1), (18, .aload_n 1, 1), (19, .iconst 0, 1), (20, .iload_n 2, 1), (21, .invokestatic 256, 3), (24, .return_, 1)]
theorem DX7_copyRow_0_ok : ∀ q ∈ DX7_copyRow_0, decode cX7_copyRow q.1 = .ok (q.2.1, q.2.2) := by decide +kernel
theorem dX7_copyRow_0 : decode cX7_copyRow 0 = .ok (.iload_n 2, 1) := dd_all DX7_copyRow_0_ok 0 rfl
theorem dX7_copyRow_1 : decode cX7_copyRow 1 = .ok (.ifCond .le 23, 3) := dd_all DX7_copyRow_0_ok 1 rfl
theorem dX7_copyRow_4 : decode cX7_copyRow 4 = .ok (.iload_n 2, 1) := dd_all DX7_copyRow_0_ok 2 rfl
theorem dX7_copyRow_5 : decode cX7_copyRow 5 = .ok (.aload_n 0, 1) := dd_all DX7_copyRow_0_ok 3 rfl
theorem dX7_copyRow_6 : decode cX7_copyRow 6 = .ok (.arraylength, 1) := dd_all DX7_copyRow_0_ok 4 rfl
theorem dX7_copyRow_7 : decode cX7_copyRow 7 = .ok (.if_icmp .gt 17, 3) := dd_all DX7_copyRow_0_ok 5 rfl
theorem dX7_copyRow_10 : decode cX7_copyRow 10 = .ok (.iload_n 2, 1) := dd_all DX7_copyRow_0_ok 6 rfl
theorem dX7_copyRow_11 : decode cX7_copyRow 11 = .ok (.aload_n 1, 1) := dd_all DX7_copyRow_0_ok 7 rfl
theorem dX7_copyRow_12 : decode cX7_copyRow 12 = .ok (.arraylength, 1) := dd_all DX7_copyRow_0_ok 8 rfl
theorem dX7_copyRow_13 : decode cX7_copyRow 13 = .ok (.if_icmp .gt 11, 3) := dd_all DX7_copyRow_0_ok 9 rfl
theorem dX7_copyRow_16 : decode cX7_copyRow 16 = .ok (.aload_n 0, 1) := dd_all DX7_copyRow_0_ok 10 rfl
theorem dX7_copyRow_17 : decode cX7_copyRow 17 = .ok (.iconst 0, 1) := dd_all DX7_copyRow_0_ok 11 rfl
theorem dX7_copyRow_18 : decode cX7_copyRow 18 = .ok (.aload_n 1, 1) := dd_all DX7_copyRow_0_ok 12 rfl
theorem dX7_copyRow_19 : decode cX7_copyRow 19 = .ok (.iconst 0, 1) := dd_all DX7_copyRow_0_ok 13 rfl
theorem dX7_copyRow_20 : decode cX7_copyRow 20 = .ok (.iload_n 2, 1) := dd_all DX7_copyRow_0_ok 14 rfl
theorem dX7_copyRow_21 : decode cX7_copyRow 21 = .ok (.invokestatic 256, 3) := dd_all DX7_copyRow_0_ok 15 rfl
theorem dX7_copyRow_24 : decode cX7_copyRow 24 = .ok (.return_, 1) := dd_all DX7_copyRow_0_ok 16 rfl
def DX7_divideUp_0 : List (Nat × Instr × Nat) := [(0, .iload_n 1, 1), (1, .ifCond .le 13, 3), (4, .iload_n 0, 1), (5, .iload_n 1, 1), (6, .iadd, 1), (7, .iconst 1, 1), (8, .isub, 1), (9, .iload_n 1, 1), (10, .idiv, 1), (11, .goto 4, 3), (14, .iconst 0, 1), (15, .ireturn, 1)]
theorem DX7_divideUp_0_ok : ∀ q ∈ DX7_divideUp_0, decode cX7_divideUp q.1 = .ok (q.2.1, q.2.2) := by decide +kernel
theorem dX7_divideUp_0 : decode cX7_divideUp 0 = .ok (.iload_n 1, 1) := dd_all DX7_divideUp_0_ok 0 rfl
theorem dX7_divideUp_1 : decode cX7_divideUp 1 = .ok (.ifCond .le 13, 3) := dd_all DX7_divideUp_0_ok 1 rfl
theorem dX7_divideUp_4 : decode cX7_divideUp 4 = .ok (.iload_n 0, 1) := dd_all DX7_divideUp_0_ok 2 rfl
theorem dX7_divideUp_5 : decode cX7_divideUp 5 = .ok (.iload_n 1, 1) := dd_all DX7_divideUp_0_ok 3 rfl
theorem dX7_divideUp_6 : decode cX7_divideUp 6 = .ok (.iadd, 1) := dd_all DX7_divideUp_0_ok 4 rfl
theorem dX7_divideUp_7 : decode cX7_divideUp 7 = .ok (.iconst 1, 1) := dd_all DX7_divideUp_0_ok 5 rfl
theorem dX7_divideUp_8 : decode cX7_divideUp 8 = .ok (.isub, 1) := dd_all DX7_divideUp_0_ok 6 rfl
theorem dX7_divideUp_9 : decode cX7_divideUp 9 = .ok (.iload_n 1, 1) := dd_all DX7_divideUp_0_ok 7 rfl
theorem dX7_divideUp_10 : decode cX7_divideUp 10 = .ok (.idiv, 1) := dd_all DX7_divideUp_0_ok 8 rfl
theorem dX7_divideUp_11 : decode cX7_divideUp 11 = .ok (.goto 4, 3) := dd_all DX7_divideUp_0_ok 9 rfl
theorem dX7_divideUp_14 : decode cX7_divideUp 14 = .ok (.iconst 0, 1) := dd_all DX7_divideUp_0_ok 10 rfl
theorem dX7_divideUp_15 : decode cX7_divideUp 15 = .ok (.ireturn, 1) := dd_all DX7_divideUp_0_ok 11 rfl
def DX8_init_0 : List (Nat × Instr × Nat) := [(0, .aload_n 0, 1), (1, .invokespecial 1, 3), (4, .aload_n 0, 1), (5, .sipush 1670, 3), (8, .newarray .int, 2), (10, .putfield 7, 3), (13, .aload_n 0, 1), (14, .sipush 6680, 3), (17, .newarray .int, 2), (19, .putfield 13, 3), (22, .aload_n 0, 1), (23, .sipush 1670, 3), (26, .newarray .int, 2), (28, .putfield 16, 3), (31, .aload_n 0, 1), (32, .bipush 60, 2), (34, .newarray .int, 2), (36, .putfield 19, 3), (39, .aload_n 0, 1), (40, .iconst 4, 1), (41, .newarray .int, 2), (43, .putfield 22, 3), (46, .aload_n 0, 1), (47, .bipush 7, 2), (49, .newarray .int, 2), (51, .putfield 25, 3), (54, .aload_n 0, 1), (55, .bipush 7, 2), (57, .newarray .int, 2), (59, .putfield 28, 3), (62, .aload_n 0, 1), (63, .getfield 7, 3), (66, .bipush 6, 2), (68, .iconst 4, 1), (69, .iastore, 1), (70, .aload_n 0, 1), (71, .getfield 7, 3), (74, .bipush 8, 2), (76, .sipush 2500, 3), (79, .iastore, 1)]
theorem DX8_init_0_ok : ∀ q ∈ DX8_init_0, decode cX8_init q.1 = .ok (q.2.1, q.2.2) := by decide +kernel
theorem dX8_init_0 : decode cX8_init 0 = .ok (.aload_n 0, 1) := dd_all DX8_init_0_ok 0 rfl
theorem dX8_init_1 : decode cX8_init 1 = .ok (.invokespecial 1, 3) := dd_all DX8_init_0_ok 1 rfl
theorem dX8_init_4 : decode cX8_init 4 = .ok (.aload_n 0, 1) := dd_all DX8_init_0_ok 2 rfl
theorem dX8_init_5 : decode cX8_init 5 = .ok (.sipush 1670, 3) := dd_all DX8_init_0_ok 3 rfl
theorem dX8_init_8 : decode cX8_init 8 = .ok (.newarray .int, 2) := dd_all DX8_init_0_ok 4 rfl
theorem dX8_init_10 : decode cX8_init 10 = .ok (.putfield 7, 3) := dd_all DX8_init_0_ok 5 rfl
theorem dX8_init_13 : decode cX8_init 13 = .ok (.aload_n 0, 1) := dd_all DX8_init_0_ok 6 rfl
theorem dX8_init_14 : decode cX8_init 14 = .ok (.sipush 6680, 3) := dd_all DX8_init_0_ok 7 rfl
theorem dX8_init_17 : decode cX8_init 17 = .ok (.newarray .int, 2) := dd_all DX8_init_0_ok 8 rfl
theorem dX8_init_19 : decode cX8_init 19 = .ok (.putfield 13, 3) := dd_all DX8_init_0_ok 9 rfl
theorem dX8_init_22 : decode cX8_init 22 = .ok (.aload_n 0, 1) := dd_all DX8_init_0_ok 10 rfl
theorem dX8_init_23 : decode cX8_init 23 = .ok (.sipush 1670, 3) := dd_all DX8_init_0_ok 11 rfl
theorem dX8_init_26 : decode cX8_init 26 = .ok (.newarray .int, 2) := dd_all DX8_init_0_ok 12 rfl
theorem dX8_init_28 : decode cX8_init 28 = .ok (.putfield 16, 3) := dd_all DX8_init_0_ok 13 rfl
theorem dX8_init_31 : decode cX8_init 31 = .ok (.aload_n 0, 1) := dd_all DX8_init_0_ok 14 rfl
theorem dX8_init_32 : decode cX8_init 32 = .ok (.bipush 60, 2) := dd_all DX8_init_0_ok 15 rfl
theorem dX8_init_34 : decode cX8_init 34 = .ok (.newarray .int, 2) := dd_all DX8_init_0_ok 16 rfl
theorem dX8_init_36 : decode cX8_init 36 = .ok (.putfield 19, 3) := dd_all DX8_init_0_ok 17 rfl
theorem dX8_init_39 : decode cX8_init 39 = .ok (.aload_n 0, 1) := dd_all DX8_init_0_ok 18 rfl
theorem dX8_init_40 : decode cX8_init 40 = .ok (.iconst 4, 1) := dd_all DX8_init_0_ok 19 rfl
theorem dX8_init_41 : decode cX8_init 41 = .ok (.newarray .int, 2) := dd_all DX8_init_0_ok 20 rfl
theorem dX8_init_43 : decode cX8_init 43 = .ok (.putfield 22, 3) := dd_all DX8_init_0_ok 21 rfl
theorem dX8_init_46 : decode cX8_init 46 = .ok (.aload_n 0, 1) := dd_all DX8_init_0_ok 22 rfl
theorem dX8_init_47 : decode cX8_init 47 = .ok (.bipush 7, 2) := dd_all DX8_init_0_ok 23 rfl
theorem dX8_init_49 : decode cX8_init 49 = .ok (.newarray .int, 2) := dd_all DX8_init_0_ok 24 rfl
theorem dX8_init_51 : decode cX8_init 51 = .ok (.putfield 25, 3) := dd_all DX8_init_0_ok 25 rfl
theorem dX8_init_54 : decode cX8_init 54 = .ok (.aload_n 0, 1) := dd_all DX8_init_0_ok 26 rfl
theorem dX8_init_55 : decode cX8_init 55 = .ok (.bipush 7, 2) := dd_all DX8_init_0_ok 27 rfl
theorem dX8_init_57 : decode cX8_init 57 = .ok (.newarray .int, 2) := dd_all DX8_init_0_ok 28 rfl
theorem dX8_init_59 : decode cX8_init 59 = .ok (.putfield 28, 3) := dd_all DX8_init_0_ok 29 rfl
theorem dX8_init_62 : decode cX8_init 62 = .ok (.aload_n 0, 1) := dd_all DX8_init_0_ok 30 rfl
theorem dX8_init_63 : decode cX8_init 63 = .ok (.getfield 7, 3) := dd_all DX8_init_0_ok 31 rfl
theorem dX8_init_66 : decode cX8_init 66 = .ok (.bipush 6, 2) := dd_all DX8_init_0_ok 32 rfl
theorem dX8_init_68 : decode cX8_init 68 = .ok (.iconst 4, 1) := dd_all DX8_init_0_ok 33 rfl
theorem dX8_init_69 : decode cX8_init 69 = .ok (.iastore, 1) := dd_all DX8_init_0_ok 34 rfl
theorem dX8_init_70 : decode cX8_init 70 = .ok (.aload_n 0, 1) := dd_all DX8_init_0_ok 35 rfl
theorem dX8_init_71 : decode cX8_init 71 = .ok (.getfield 7, 3) := dd_all DX8_init_0_ok 36 rfl
theorem dX8_init_74 : decode cX8_init 74 = .ok (.bipush 8, 2) := dd_all DX8_init_0_ok 37 rfl
theorem dX8_init_76 : decode cX8_init 76 = .ok (.sipush 2500, 3) := dd_all DX8_init_0_ok 38 rfl
theorem dX8_init_79 : decode cX8_init 79 = .ok (.iastore, 1) := dd_all DX8_init_0_ok 39 rfl
def DX8_init_40 : List (Nat × Instr × Nat) := [(80, .aload_n 0, 1), (81, .getfield 7, 3), (84, .bipush 9, 2), (86, .bipush 7, 2), (88, .iastore, 1), (89, .iconst 0, 1), (90, .istore_n 1, 1), (91, .iload_n 1, 1), (92, .bipush 7, 2), (94, .if_icmp .ge 61, 3), (97, .aload_n 0, 1), (98, .getfield 7, 3), (101, .bipush 10, 2), (103, .iload_n 1, 1), (104, .iadd, 1), (105, .iload_n 1, 1), (106, .iconst 2, 1), (107, .irem, 1), (108, .iconst 1, 1), (109, .if_icmp .ne 8, 3), (112, .bipush 43, 2), (114, .goto 34, 3), (117, .iload_n 1, 1), (118, .ifCond .ne 8, 3), (121, .bipush 115, 2), (123, .goto 25, 3), (126, .iload_n 1, 1), (127, .iconst 2, 1), (128, .if_icmp .ne 8, 3), (131, .bipush 97, 2), (133, .goto 15, 3), (136, .iload_n 1, 1), (137, .iconst 4, 1), (138, .if_icmp .ne 8, 3), (141, .bipush 116, 2), (143, .goto 5, 3), (146, .bipush 98, 2), (148, .iastore, 1), (149, .iinc 1 1, 3), (152, .goto (-61), 3)]
theorem DX8_init_40_ok : ∀ q ∈ DX8_init_40, decode cX8_init q.1 = .ok (q.2.1, q.2.2) := by decide +kernel
theorem dX8_init_80 : decode cX8_init 80 = .ok (.aload_n 0, 1) := dd_all DX8_init_40_ok 0 rfl
theorem dX8_init_81 : decode cX8_init 81 = .ok (.getfield 7, 3) := dd_all DX8_init_40_ok 1 rfl
theorem dX8_init_84 : decode cX8_init 84 = .ok (.bipush 9, 2) := dd_all DX8_init_40_ok 2 rfl
theorem dX8_init_86 : decode cX8_init 86 = .ok (.bipush 7, 2) := dd_all DX8_init_40_ok 3 rfl
theorem dX8_init_88 : decode cX8_init 88 = .ok (.iastore, 1) := dd_all DX8_init_40_ok 4 rfl
theorem dX8_init_89 : decode cX8_init 89 = .ok (.iconst 0, 1) := dd_all DX8_init_40_ok 5 rfl
theorem dX8_init_90 : decode cX8_init 90 = .ok (.istore_n 1, 1) := dd_all DX8_init_40_ok 6 rfl
theorem dX8_init_91 : decode cX8_init 91 = .ok (.iload_n 1, 1) := dd_all DX8_init_40_ok 7 rfl
theorem dX8_init_92 : decode cX8_init 92 = .ok (.bipush 7, 2) := dd_all DX8_init_40_ok 8 rfl
theorem dX8_init_94 : decode cX8_init 94 = .ok (.if_icmp .ge 61, 3) := dd_all DX8_init_40_ok 9 rfl
theorem dX8_init_97 : decode cX8_init 97 = .ok (.aload_n 0, 1) := dd_all DX8_init_40_ok 10 rfl
theorem dX8_init_98 : decode cX8_init 98 = .ok (.getfield 7, 3) := dd_all DX8_init_40_ok 11 rfl
theorem dX8_init_101 : decode cX8_init 101 = .ok (.bipush 10, 2) := dd_all DX8_init_40_ok 12 rfl
theorem dX8_init_103 : decode cX8_init 103 = .ok (.iload_n 1, 1) := dd_all DX8_init_40_ok 13 rfl
theorem dX8_init_104 : decode cX8_init 104 = .ok (.iadd, 1) := dd_all DX8_init_40_ok 14 rfl
theorem dX8_init_105 : decode cX8_init 105 = .ok (.iload_n 1, 1) := dd_all DX8_init_40_ok 15 rfl
theorem dX8_init_106 : decode cX8_init 106 = .ok (.iconst 2, 1) := dd_all DX8_init_40_ok 16 rfl
theorem dX8_init_107 : decode cX8_init 107 = .ok (.irem, 1) := dd_all DX8_init_40_ok 17 rfl
theorem dX8_init_108 : decode cX8_init 108 = .ok (.iconst 1, 1) := dd_all DX8_init_40_ok 18 rfl
theorem dX8_init_109 : decode cX8_init 109 = .ok (.if_icmp .ne 8, 3) := dd_all DX8_init_40_ok 19 rfl
theorem dX8_init_112 : decode cX8_init 112 = .ok (.bipush 43, 2) := dd_all DX8_init_40_ok 20 rfl
theorem dX8_init_114 : decode cX8_init 114 = .ok (.goto 34, 3) := dd_all DX8_init_40_ok 21 rfl
theorem dX8_init_117 : decode cX8_init 117 = .ok (.iload_n 1, 1) := dd_all DX8_init_40_ok 22 rfl
theorem dX8_init_118 : decode cX8_init 118 = .ok (.ifCond .ne 8, 3) := dd_all DX8_init_40_ok 23 rfl
theorem dX8_init_121 : decode cX8_init 121 = .ok (.bipush 115, 2) := dd_all DX8_init_40_ok 24 rfl
theorem dX8_init_123 : decode cX8_init 123 = .ok (.goto 25, 3) := dd_all DX8_init_40_ok 25 rfl
theorem dX8_init_126 : decode cX8_init 126 = .ok (.iload_n 1, 1) := dd_all DX8_init_40_ok 26 rfl
theorem dX8_init_127 : decode cX8_init 127 = .ok (.iconst 2, 1) := dd_all DX8_init_40_ok 27 rfl
theorem dX8_init_128 : decode cX8_init 128 = .ok (.if_icmp .ne 8, 3) := dd_all DX8_init_40_ok 28 rfl
theorem dX8_init_131 : decode cX8_init 131 = .ok (.bipush 97, 2) := dd_all DX8_init_40_ok 29 rfl
theorem dX8_init_133 : decode cX8_init 133 = .ok (.goto 15, 3) := dd_all DX8_init_40_ok 30 rfl
theorem dX8_init_136 : decode cX8_init 136 = .ok (.iload_n 1, 1) := dd_all DX8_init_40_ok 31 rfl
theorem dX8_init_137 : decode cX8_init 137 = .ok (.iconst 4, 1) := dd_all DX8_init_40_ok 32 rfl
theorem dX8_init_138 : decode cX8_init 138 = .ok (.if_icmp .ne 8, 3) := dd_all DX8_init_40_ok 33 rfl
theorem dX8_init_141 : decode cX8_init 141 = .ok (.bipush 116, 2) := dd_all DX8_init_40_ok 34 rfl
theorem dX8_init_143 : decode cX8_init 143 = .ok (.goto 5, 3) := dd_all DX8_init_40_ok 35 rfl
theorem dX8_init_146 : decode cX8_init 146 = .ok (.bipush 98, 2) := dd_all DX8_init_40_ok 36 rfl
theorem dX8_init_148 : decode cX8_init 148 = .ok (.iastore, 1) := dd_all DX8_init_40_ok 37 rfl
theorem dX8_init_149 : decode cX8_init 149 = .ok (.iinc 1 1, 3) := dd_all DX8_init_40_ok 38 rfl
theorem dX8_init_152 : decode cX8_init 152 = .ok (.goto (-61), 3) := dd_all DX8_init_40_ok 39 rfl
def DX8_init_80 : List (Nat × Instr × Nat) := [(155, .return_, 1)]
theorem DX8_init_80_ok : ∀ q ∈ DX8_init_80, decode cX8_init q.1 = .ok (q.2.1, q.2.2) := by decide +kernel
theorem dX8_init_155 : decode cX8_init 155 = .ok (.return_, 1) := dd_all DX8_init_80_ok 0 rfl
def DX8_in_0 : List (Nat × Instr × Nat) := [(0, .iload_n 0, 1), (1, .iload_n 1, 1), (2, .if_icmp .lt 12, 3), (5, .iload_n 0, 1), (6, .iload_n 2, 1), (7, .if_icmp .gt 7, 3), (10, .iconst 1, 1), (11, .goto 4, 3), (14, .iconst 0, 1), (15, .ireturn, 1)]
theorem DX8_in_0_ok : ∀ q ∈ DX8_in_0, decode cX8_in q.1 = .ok (q.2.1, q.2.2) := by decide +kernel
theorem dX8_in_0 : decode cX8_in 0 = .ok (.iload_n 0, 1) := dd_all DX8_in_0_ok 0 rfl
theorem dX8_in_1 : decode cX8_in 1 = .ok (.iload_n 1, 1) := dd_all DX8_in_0_ok 1 rfl
theorem dX8_in_2 : decode cX8_in 2 = .ok (.if_icmp .lt 12, 3) := dd_all DX8_in_0_ok 2 rfl
theorem dX8_in_5 : decode cX8_in 5 = .ok (.iload_n 0, 1) := dd_all DX8_in_0_ok 3 rfl
theorem dX8_in_6 : decode cX8_in 6 = .ok (.iload_n 2, 1) := dd_all DX8_in_0_ok 4 rfl
theorem dX8_in_7 : decode cX8_in 7 = .ok (.if_icmp .gt 7, 3) := dd_all DX8_in_0_ok 5 rfl
theorem dX8_in_10 : decode cX8_in 10 = .ok (.iconst 1, 1) := dd_all DX8_in_0_ok 6 rfl
theorem dX8_in_11 : decode cX8_in 11 = .ok (.goto 4, 3) := dd_all DX8_in_0_ok 7 rfl
theorem dX8_in_14 : decode cX8_in 14 = .ok (.iconst 0, 1) := dd_all DX8_in_0_ok 8 rfl
theorem dX8_in_15 : decode cX8_in 15 = .ok (.ireturn, 1) := dd_all DX8_in_0_ok 9 rfl
def DX8_changes_0 : List (Nat × Instr × Nat) := [(0, .aload_n 0, 1), (1, .getfield 31, 3), (4, .iconst 4, 1), (5, .if_icmp .ne 44, 3), (8, .iconst 0, 1), (9, .istore_n 1, 1), (10, .iload_n 1, 1), (11, .sipush 5010, 3), (14, .if_icmp .ge 25, 3), (17, .aload_n 0, 1), (18, .getfield 13, 3), (21, .iload_n 1, 1), (22, .aload_n 0, 1), (23, .getfield 13, 3), (26, .iload_n 1, 1), (27, .sipush 1670, 3), (30, .iadd, 1), (31, .iaload, 1), (32, .iastore, 1), (33, .iinc 1 1, 3), (36, .goto (-26), 3), (39, .aload_n 0, 1), (40, .dup, 1), (41, .getfield 31, 3), (44, .iconst 1, 1), (45, .isub, 1), (46, .putfield 31, 3), (49, .iconst 0, 1), (50, .istore_n 1, 1), (51, .iload_n 1, 1), (52, .sipush 1670, 3), (55, .if_icmp .ge 30, 3), (58, .aload_n 0, 1), (59, .getfield 13, 3), (62, .sipush 1670, 3), (65, .aload_n 0, 1), (66, .getfield 31, 3), (69, .imul, 1), (70, .iload_n 1, 1), (71, .iadd, 1)]
theorem DX8_changes_0_ok : ∀ q ∈ DX8_changes_0, decode cX8_changes q.1 = .ok (q.2.1, q.2.2) := by decide +kernel
theorem dX8_changes_0 : decode cX8_changes 0 = .ok (.aload_n 0, 1) := dd_all DX8_changes_0_ok 0 rfl
theorem dX8_changes_1 : decode cX8_changes 1 = .ok (.getfield 31, 3) := dd_all DX8_changes_0_ok 1 rfl
theorem dX8_changes_4 : decode cX8_changes 4 = .ok (.iconst 4, 1) := dd_all DX8_changes_0_ok 2 rfl
theorem dX8_changes_5 : decode cX8_changes 5 = .ok (.if_icmp .ne 44, 3) := dd_all DX8_changes_0_ok 3 rfl
theorem dX8_changes_8 : decode cX8_changes 8 = .ok (.iconst 0, 1) := dd_all DX8_changes_0_ok 4 rfl
theorem dX8_changes_9 : decode cX8_changes 9 = .ok (.istore_n 1, 1) := dd_all DX8_changes_0_ok 5 rfl
theorem dX8_changes_10 : decode cX8_changes 10 = .ok (.iload_n 1, 1) := dd_all DX8_changes_0_ok 6 rfl
theorem dX8_changes_11 : decode cX8_changes 11 = .ok (.sipush 5010, 3) := dd_all DX8_changes_0_ok 7 rfl
theorem dX8_changes_14 : decode cX8_changes 14 = .ok (.if_icmp .ge 25, 3) := dd_all DX8_changes_0_ok 8 rfl
theorem dX8_changes_17 : decode cX8_changes 17 = .ok (.aload_n 0, 1) := dd_all DX8_changes_0_ok 9 rfl
theorem dX8_changes_18 : decode cX8_changes 18 = .ok (.getfield 13, 3) := dd_all DX8_changes_0_ok 10 rfl
theorem dX8_changes_21 : decode cX8_changes 21 = .ok (.iload_n 1, 1) := dd_all DX8_changes_0_ok 11 rfl
theorem dX8_changes_22 : decode cX8_changes 22 = .ok (.aload_n 0, 1) := dd_all DX8_changes_0_ok 12 rfl
theorem dX8_changes_23 : decode cX8_changes 23 = .ok (.getfield 13, 3) := dd_all DX8_changes_0_ok 13 rfl
theorem dX8_changes_26 : decode cX8_changes 26 = .ok (.iload_n 1, 1) := dd_all DX8_changes_0_ok 14 rfl
theorem dX8_changes_27 : decode cX8_changes 27 = .ok (.sipush 1670, 3) := dd_all DX8_changes_0_ok 15 rfl
theorem dX8_changes_30 : decode cX8_changes 30 = .ok (.iadd, 1) := dd_all DX8_changes_0_ok 16 rfl
theorem dX8_changes_31 : decode cX8_changes 31 = .ok (.iaload, 1) := dd_all DX8_changes_0_ok 17 rfl
theorem dX8_changes_32 : decode cX8_changes 32 = .ok (.iastore, 1) := dd_all DX8_changes_0_ok 18 rfl
theorem dX8_changes_33 : decode cX8_changes 33 = .ok (.iinc 1 1, 3) := dd_all DX8_changes_0_ok 19 rfl
theorem dX8_changes_36 : decode cX8_changes 36 = .ok (.goto (-26), 3) := dd_all DX8_changes_0_ok 20 rfl
theorem dX8_changes_39 : decode cX8_changes 39 = .ok (.aload_n 0, 1) := dd_all DX8_changes_0_ok 21 rfl
theorem dX8_changes_40 : decode cX8_changes 40 = .ok (.dup, 1) := dd_all DX8_changes_0_ok 22 rfl
theorem dX8_changes_41 : decode cX8_changes 41 = .ok (.getfield 31, 3) := dd_all DX8_changes_0_ok 23 rfl
theorem dX8_changes_44 : decode cX8_changes 44 = .ok (.iconst 1, 1) := dd_all DX8_changes_0_ok 24 rfl
theorem dX8_changes_45 : decode cX8_changes 45 = .ok (.isub, 1) := dd_all DX8_changes_0_ok 25 rfl
theorem dX8_changes_46 : decode cX8_changes 46 = .ok (.putfield 31, 3) := dd_all DX8_changes_0_ok 26 rfl
theorem dX8_changes_49 : decode cX8_changes 49 = .ok (.iconst 0, 1) := dd_all DX8_changes_0_ok 27 rfl
theorem dX8_changes_50 : decode cX8_changes 50 = .ok (.istore_n 1, 1) := dd_all DX8_changes_0_ok 28 rfl
theorem dX8_changes_51 : decode cX8_changes 51 = .ok (.iload_n 1, 1) := dd_all DX8_changes_0_ok 29 rfl
theorem dX8_changes_52 : decode cX8_changes 52 = .ok (.sipush 1670, 3) := dd_all DX8_changes_0_ok 30 rfl
theorem dX8_changes_55 : decode cX8_changes 55 = .ok (.if_icmp .ge 30, 3) := dd_all DX8_changes_0_ok 31 rfl
theorem dX8_changes_58 : decode cX8_changes 58 = .ok (.aload_n 0, 1) := dd_all DX8_changes_0_ok 32 rfl
theorem dX8_changes_59 : decode cX8_changes 59 = .ok (.getfield 13, 3) := dd_all DX8_changes_0_ok 33 rfl
theorem dX8_changes_62 : decode cX8_changes 62 = .ok (.sipush 1670, 3) := dd_all DX8_changes_0_ok 34 rfl
theorem dX8_changes_65 : decode cX8_changes 65 = .ok (.aload_n 0, 1) := dd_all DX8_changes_0_ok 35 rfl
theorem dX8_changes_66 : decode cX8_changes 66 = .ok (.getfield 31, 3) := dd_all DX8_changes_0_ok 36 rfl
theorem dX8_changes_69 : decode cX8_changes 69 = .ok (.imul, 1) := dd_all DX8_changes_0_ok 37 rfl
theorem dX8_changes_70 : decode cX8_changes 70 = .ok (.iload_n 1, 1) := dd_all DX8_changes_0_ok 38 rfl
theorem dX8_changes_71 : decode cX8_changes 71 = .ok (.iadd, 1) := dd_all DX8_changes_0_ok 39 rfl
def DX8_changes_40 : List (Nat × Instr × Nat) := [(72, .aload_n 0, 1), (73, .getfield 7, 3), (76, .iload_n 1, 1), (77, .iaload, 1), (78, .iastore, 1), (79, .iinc 1 1, 3), (82, .goto (-31), 3), (85, .aload_n 0, 1), (86, .dup, 1), (87, .getfield 31, 3), (90, .iconst 1, 1), (91, .iadd, 1), (92, .putfield 31, 3), (95, .return_, 1)]
theorem DX8_changes_40_ok : ∀ q ∈ DX8_changes_40, decode cX8_changes q.1 = .ok (q.2.1, q.2.2) := by decide +kernel
theorem dX8_changes_72 : decode cX8_changes 72 = .ok (.aload_n 0, 1) := dd_all DX8_changes_40_ok 0 rfl
theorem dX8_changes_73 : decode cX8_changes 73 = .ok (.getfield 7, 3) := dd_all DX8_changes_40_ok 1 rfl
theorem dX8_changes_76 : decode cX8_changes 76 = .ok (.iload_n 1, 1) := dd_all DX8_changes_40_ok 2 rfl
theorem dX8_changes_77 : decode cX8_changes 77 = .ok (.iaload, 1) := dd_all DX8_changes_40_ok 3 rfl
theorem dX8_changes_78 : decode cX8_changes 78 = .ok (.iastore, 1) := dd_all DX8_changes_40_ok 4 rfl
theorem dX8_changes_79 : decode cX8_changes 79 = .ok (.iinc 1 1, 3) := dd_all DX8_changes_40_ok 5 rfl
theorem dX8_changes_82 : decode cX8_changes 82 = .ok (.goto (-31), 3) := dd_all DX8_changes_40_ok 6 rfl
theorem dX8_changes_85 : decode cX8_changes 85 = .ok (.aload_n 0, 1) := dd_all DX8_changes_40_ok 7 rfl
theorem dX8_changes_86 : decode cX8_changes 86 = .ok (.dup, 1) := dd_all DX8_changes_40_ok 8 rfl
theorem dX8_changes_87 : decode cX8_changes 87 = .ok (.getfield 31, 3) := dd_all DX8_changes_40_ok 9 rfl
theorem dX8_changes_90 : decode cX8_changes 90 = .ok (.iconst 1, 1) := dd_all DX8_changes_40_ok 10 rfl
theorem dX8_changes_91 : decode cX8_changes 91 = .ok (.iadd, 1) := dd_all DX8_changes_40_ok 11 rfl
theorem dX8_changes_92 : decode cX8_changes 92 = .ok (.putfield 31, 3) := dd_all DX8_changes_40_ok 12 rfl
theorem dX8_changes_95 : decode cX8_changes 95 = .ok (.return_, 1) := dd_all DX8_changes_40_ok 13 rfl
def DX8_copies_0 : List (Nat × Instr × Nat) := [(0, .iconst 0, 1), (1, .istore_n 3, 1), (2, .iload_n 3, 1), (3, .sipush 1670, 3), (6, .if_icmp .ge 15, 3), (9, .aload_n 2, 1), (10, .iload_n 3, 1), (11, .aload_n 1, 1), (12, .iload_n 3, 1), (13, .iaload, 1), (14, .iastore, 1), (15, .iinc 3 1, 3), (18, .goto (-16), 3), (21, .return_, 1)]
theorem DX8_copies_0_ok : ∀ q ∈ DX8_copies_0, decode cX8_copies q.1 = .ok (q.2.1, q.2.2) := by decide +kernel
theorem dX8_copies_0 : decode cX8_copies 0 = .ok (.iconst 0, 1) := dd_all DX8_copies_0_ok 0 rfl
theorem dX8_copies_1 : decode cX8_copies 1 = .ok (.istore_n 3, 1) := dd_all DX8_copies_0_ok 1 rfl
theorem dX8_copies_2 : decode cX8_copies 2 = .ok (.iload_n 3, 1) := dd_all DX8_copies_0_ok 2 rfl
theorem dX8_copies_3 : decode cX8_copies 3 = .ok (.sipush 1670, 3) := dd_all DX8_copies_0_ok 3 rfl
theorem dX8_copies_6 : decode cX8_copies 6 = .ok (.if_icmp .ge 15, 3) := dd_all DX8_copies_0_ok 4 rfl
theorem dX8_copies_9 : decode cX8_copies 9 = .ok (.aload_n 2, 1) := dd_all DX8_copies_0_ok 5 rfl
theorem dX8_copies_10 : decode cX8_copies 10 = .ok (.iload_n 3, 1) := dd_all DX8_copies_0_ok 6 rfl
theorem dX8_copies_11 : decode cX8_copies 11 = .ok (.aload_n 1, 1) := dd_all DX8_copies_0_ok 7 rfl
theorem dX8_copies_12 : decode cX8_copies 12 = .ok (.iload_n 3, 1) := dd_all DX8_copies_0_ok 8 rfl
theorem dX8_copies_13 : decode cX8_copies 13 = .ok (.iaload, 1) := dd_all DX8_copies_0_ok 9 rfl
theorem dX8_copies_14 : decode cX8_copies 14 = .ok (.iastore, 1) := dd_all DX8_copies_0_ok 10 rfl
theorem dX8_copies_15 : decode cX8_copies 15 = .ok (.iinc 3 1, 3) := dd_all DX8_copies_0_ok 11 rfl
theorem dX8_copies_18 : decode cX8_copies 18 = .ok (.goto (-16), 3) := dd_all DX8_copies_0_ok 12 rfl
theorem dX8_copies_21 : decode cX8_copies 21 = .ok (.return_, 1) := dd_all DX8_copies_0_ok 13 rfl
def DX8_of_0 : List (Nat × Instr × Nat) := [(0, .aload_n 0, 1), (1, .getfield 7, 3), (4, .bipush 70, 2), (6, .bipush 8, 2), (8, .iload_n 1, 1), (9, .imul, 1), (10, .iadd, 1), (11, .iload_n 2, 1), (12, .iadd, 1), (13, .iaload, 1), (14, .ireturn, 1)]
theorem DX8_of_0_ok : ∀ q ∈ DX8_of_0, decode cX8_of q.1 = .ok (q.2.1, q.2.2) := by decide +kernel
theorem dX8_of_0 : decode cX8_of 0 = .ok (.aload_n 0, 1) := dd_all DX8_of_0_ok 0 rfl
theorem dX8_of_1 : decode cX8_of 1 = .ok (.getfield 7, 3) := dd_all DX8_of_0_ok 1 rfl
theorem dX8_of_4 : decode cX8_of 4 = .ok (.bipush 70, 2) := dd_all DX8_of_0_ok 2 rfl
theorem dX8_of_6 : decode cX8_of 6 = .ok (.bipush 8, 2) := dd_all DX8_of_0_ok 3 rfl
theorem dX8_of_8 : decode cX8_of 8 = .ok (.iload_n 1, 1) := dd_all DX8_of_0_ok 4 rfl
theorem dX8_of_9 : decode cX8_of 9 = .ok (.imul, 1) := dd_all DX8_of_0_ok 5 rfl
theorem dX8_of_10 : decode cX8_of 10 = .ok (.iadd, 1) := dd_all DX8_of_0_ok 6 rfl
theorem dX8_of_11 : decode cX8_of 11 = .ok (.iload_n 2, 1) := dd_all DX8_of_0_ok 7 rfl
theorem dX8_of_12 : decode cX8_of 12 = .ok (.iadd, 1) := dd_all DX8_of_0_ok 8 rfl
theorem dX8_of_13 : decode cX8_of 13 = .ok (.iaload, 1) := dd_all DX8_of_0_ok 9 rfl
theorem dX8_of_14 : decode cX8_of 14 = .ok (.ireturn, 1) := dd_all DX8_of_0_ok 10 rfl
def DX8_puts_0 : List (Nat × Instr × Nat) := [(0, .aload_n 0, 1), (1, .getfield 7, 3), (4, .bipush 70, 2), (6, .bipush 8, 2), (8, .iload_n 1, 1), (9, .imul, 1), (10, .iadd, 1), (11, .iload_n 2, 1), (12, .iadd, 1), (13, .iload_n 3, 1), (14, .iastore, 1), (15, .return_, 1)]
theorem DX8_puts_0_ok : ∀ q ∈ DX8_puts_0, decode cX8_puts q.1 = .ok (q.2.1, q.2.2) := by decide +kernel
theorem dX8_puts_0 : decode cX8_puts 0 = .ok (.aload_n 0, 1) := dd_all DX8_puts_0_ok 0 rfl
theorem dX8_puts_1 : decode cX8_puts 1 = .ok (.getfield 7, 3) := dd_all DX8_puts_0_ok 1 rfl
theorem dX8_puts_4 : decode cX8_puts 4 = .ok (.bipush 70, 2) := dd_all DX8_puts_0_ok 2 rfl
theorem dX8_puts_6 : decode cX8_puts 6 = .ok (.bipush 8, 2) := dd_all DX8_puts_0_ok 3 rfl
theorem dX8_puts_8 : decode cX8_puts 8 = .ok (.iload_n 1, 1) := dd_all DX8_puts_0_ok 4 rfl
theorem dX8_puts_9 : decode cX8_puts 9 = .ok (.imul, 1) := dd_all DX8_puts_0_ok 5 rfl
theorem dX8_puts_10 : decode cX8_puts 10 = .ok (.iadd, 1) := dd_all DX8_puts_0_ok 6 rfl
theorem dX8_puts_11 : decode cX8_puts 11 = .ok (.iload_n 2, 1) := dd_all DX8_puts_0_ok 7 rfl
theorem dX8_puts_12 : decode cX8_puts 12 = .ok (.iadd, 1) := dd_all DX8_puts_0_ok 8 rfl
theorem dX8_puts_13 : decode cX8_puts 13 = .ok (.iload_n 3, 1) := dd_all DX8_puts_0_ok 9 rfl
theorem dX8_puts_14 : decode cX8_puts 14 = .ok (.iastore, 1) := dd_all DX8_puts_0_ok 10 rfl
theorem dX8_puts_15 : decode cX8_puts 15 = .ok (.return_, 1) := dd_all DX8_puts_0_ok 11 rfl
def DX8_isNote_0 : List (Nat × Instr × Nat) := [(0, .iload_n 1, 1), (1, .ifCond .lt 17, 3), (4, .iload_n 1, 1), (5, .aload_n 0, 1), (6, .getfield 7, 3), (9, .iconst 0, 1), (10, .iaload, 1), (11, .if_icmp .ge 7, 3), (14, .iconst 1, 1), (15, .goto 4, 3), (18, .iconst 0, 1), (19, .ireturn, 1)]
theorem DX8_isNote_0_ok : ∀ q ∈ DX8_isNote_0, decode cX8_isNote q.1 = .ok (q.2.1, q.2.2) := by decide +kernel
theorem dX8_isNote_0 : decode cX8_isNote 0 = .ok (.iload_n 1, 1) := dd_all DX8_isNote_0_ok 0 rfl
theorem dX8_isNote_1 : decode cX8_isNote 1 = .ok (.ifCond .lt 17, 3) := dd_all DX8_isNote_0_ok 1 rfl
theorem dX8_isNote_4 : decode cX8_isNote 4 = .ok (.iload_n 1, 1) := dd_all DX8_isNote_0_ok 2 rfl
theorem dX8_isNote_5 : decode cX8_isNote 5 = .ok (.aload_n 0, 1) := dd_all DX8_isNote_0_ok 3 rfl
theorem dX8_isNote_6 : decode cX8_isNote 6 = .ok (.getfield 7, 3) := dd_all DX8_isNote_0_ok 4 rfl
theorem dX8_isNote_9 : decode cX8_isNote 9 = .ok (.iconst 0, 1) := dd_all DX8_isNote_0_ok 5 rfl
theorem dX8_isNote_10 : decode cX8_isNote 10 = .ok (.iaload, 1) := dd_all DX8_isNote_0_ok 6 rfl
theorem dX8_isNote_11 : decode cX8_isNote 11 = .ok (.if_icmp .ge 7, 3) := dd_all DX8_isNote_0_ok 7 rfl
theorem dX8_isNote_14 : decode cX8_isNote 14 = .ok (.iconst 1, 1) := dd_all DX8_isNote_0_ok 8 rfl
theorem dX8_isNote_15 : decode cX8_isNote 15 = .ok (.goto 4, 3) := dd_all DX8_isNote_0_ok 9 rfl
theorem dX8_isNote_18 : decode cX8_isNote 18 = .ok (.iconst 0, 1) := dd_all DX8_isNote_0_ok 10 rfl
theorem dX8_isNote_19 : decode cX8_isNote 19 = .ok (.ireturn, 1) := dd_all DX8_isNote_0_ok 11 rfl
def DX8_hasPlace_0 : List (Nat × Instr × Nat) := [(0, .aload_n 0, 1), (1, .iload_n 1, 1), (2, .iconst 3, 1), (3, .invokevirtual 35, 3), (6, .iconst 1, 1), (7, .iconst 4, 1), (8, .invokestatic 39, 3), (11, .ireturn, 1)]
theorem DX8_hasPlace_0_ok : ∀ q ∈ DX8_hasPlace_0, decode cX8_hasPlace q.1 = .ok (q.2.1, q.2.2) := by decide +kernel
theorem dX8_hasPlace_0 : decode cX8_hasPlace 0 = .ok (.aload_n 0, 1) := dd_all DX8_hasPlace_0_ok 0 rfl
theorem dX8_hasPlace_1 : decode cX8_hasPlace 1 = .ok (.iload_n 1, 1) := dd_all DX8_hasPlace_0_ok 1 rfl
theorem dX8_hasPlace_2 : decode cX8_hasPlace 2 = .ok (.iconst 3, 1) := dd_all DX8_hasPlace_0_ok 2 rfl
theorem dX8_hasPlace_3 : decode cX8_hasPlace 3 = .ok (.invokevirtual 35, 3) := dd_all DX8_hasPlace_0_ok 3 rfl
theorem dX8_hasPlace_6 : decode cX8_hasPlace 6 = .ok (.iconst 1, 1) := dd_all DX8_hasPlace_0_ok 4 rfl
theorem dX8_hasPlace_7 : decode cX8_hasPlace 7 = .ok (.iconst 4, 1) := dd_all DX8_hasPlace_0_ok 5 rfl
theorem dX8_hasPlace_8 : decode cX8_hasPlace 8 = .ok (.invokestatic 39, 3) := dd_all DX8_hasPlace_0_ok 6 rfl
theorem dX8_hasPlace_11 : decode cX8_hasPlace 11 = .ok (.ireturn, 1) := dd_all DX8_hasPlace_0_ok 7 rfl
def DX8_isVoice_0 : List (Nat × Instr × Nat) := [(0, .aload_n 0, 1), (1, .iload_n 1, 1), (2, .iconst 3, 1), (3, .invokevirtual 35, 3), (6, .iconst 1, 1), (7, .iconst 5, 1), (8, .invokestatic 39, 3), (11, .ireturn, 1)]
theorem DX8_isVoice_0_ok : ∀ q ∈ DX8_isVoice_0, decode cX8_isVoice q.1 = .ok (q.2.1, q.2.2) := by decide +kernel
theorem dX8_isVoice_0 : decode cX8_isVoice 0 = .ok (.aload_n 0, 1) := dd_all DX8_isVoice_0_ok 0 rfl
theorem dX8_isVoice_1 : decode cX8_isVoice 1 = .ok (.iload_n 1, 1) := dd_all DX8_isVoice_0_ok 1 rfl
theorem dX8_isVoice_2 : decode cX8_isVoice 2 = .ok (.iconst 3, 1) := dd_all DX8_isVoice_0_ok 2 rfl
theorem dX8_isVoice_3 : decode cX8_isVoice 3 = .ok (.invokevirtual 35, 3) := dd_all DX8_isVoice_0_ok 3 rfl
theorem dX8_isVoice_6 : decode cX8_isVoice 6 = .ok (.iconst 1, 1) := dd_all DX8_isVoice_0_ok 4 rfl
theorem dX8_isVoice_7 : decode cX8_isVoice 7 = .ok (.iconst 5, 1) := dd_all DX8_isVoice_0_ok 5 rfl
theorem dX8_isVoice_8 : decode cX8_isVoice 8 = .ok (.invokestatic 39, 3) := dd_all DX8_isVoice_0_ok 6 rfl
theorem dX8_isVoice_11 : decode cX8_isVoice 11 = .ok (.ireturn, 1) := dd_all DX8_isVoice_0_ok 7 rfl
def DX8_rise_0 : List (Nat × Instr × Nat) := [(0, .iload_n 0, 1), (1, .ifCond .ne 7, 3), (4, .iconst 2, 1), (5, .goto 23, 3), (8, .iload_n 0, 1), (9, .iconst 1, 1), (10, .if_icmp .ne 7, 3), (13, .iconst 4, 1), (14, .goto 14, 3), (17, .iload_n 0, 1), (18, .iconst 2, 1), (19, .if_icmp .ne 7, 3), (22, .iconst 5, 1), (23, .goto 5, 3), (26, .bipush 8, 2), (28, .ireturn, 1)]
theorem DX8_rise_0_ok : ∀ q ∈ DX8_rise_0, decode cX8_rise q.1 = .ok (q.2.1, q.2.2) := by decide +kernel
theorem dX8_rise_0 : decode cX8_rise 0 = .ok (.iload_n 0, 1) := dd_all DX8_rise_0_ok 0 rfl
theorem dX8_rise_1 : decode cX8_rise 1 = .ok (.ifCond .ne 7, 3) := dd_all DX8_rise_0_ok 1 rfl
theorem dX8_rise_4 : decode cX8_rise 4 = .ok (.iconst 2, 1) := dd_all DX8_rise_0_ok 2 rfl
theorem dX8_rise_5 : decode cX8_rise 5 = .ok (.goto 23, 3) := dd_all DX8_rise_0_ok 3 rfl
theorem dX8_rise_8 : decode cX8_rise 8 = .ok (.iload_n 0, 1) := dd_all DX8_rise_0_ok 4 rfl
theorem dX8_rise_9 : decode cX8_rise 9 = .ok (.iconst 1, 1) := dd_all DX8_rise_0_ok 5 rfl
theorem dX8_rise_10 : decode cX8_rise 10 = .ok (.if_icmp .ne 7, 3) := dd_all DX8_rise_0_ok 6 rfl
theorem dX8_rise_13 : decode cX8_rise 13 = .ok (.iconst 4, 1) := dd_all DX8_rise_0_ok 7 rfl
theorem dX8_rise_14 : decode cX8_rise 14 = .ok (.goto 14, 3) := dd_all DX8_rise_0_ok 8 rfl
theorem dX8_rise_17 : decode cX8_rise 17 = .ok (.iload_n 0, 1) := dd_all DX8_rise_0_ok 9 rfl
theorem dX8_rise_18 : decode cX8_rise 18 = .ok (.iconst 2, 1) := dd_all DX8_rise_0_ok 10 rfl
theorem dX8_rise_19 : decode cX8_rise 19 = .ok (.if_icmp .ne 7, 3) := dd_all DX8_rise_0_ok 11 rfl
theorem dX8_rise_22 : decode cX8_rise 22 = .ok (.iconst 5, 1) := dd_all DX8_rise_0_ok 12 rfl
theorem dX8_rise_23 : decode cX8_rise 23 = .ok (.goto 5, 3) := dd_all DX8_rise_0_ok 13 rfl
theorem dX8_rise_26 : decode cX8_rise 26 = .ok (.bipush 8, 2) := dd_all DX8_rise_0_ok 14 rfl
theorem dX8_rise_28 : decode cX8_rise 28 = .ok (.ireturn, 1) := dd_all DX8_rise_0_ok 15 rfl
def DX8_sink_0 : List (Nat × Instr × Nat) := [(0, .iload_n 0, 1), (1, .ifCond .ne 8, 3), (4, .bipush 10, 2), (6, .goto 25, 3), (9, .iload_n 0, 1), (10, .iconst 1, 1), (11, .if_icmp .ne 8, 3), (14, .bipush 8, 2), (16, .goto 15, 3), (19, .iload_n 0, 1), (20, .iconst 2, 1), (21, .if_icmp .ne 8, 3), (24, .bipush 12, 2), (26, .goto 5, 3), (29, .bipush 6, 2), (31, .ireturn, 1)]
theorem DX8_sink_0_ok : ∀ q ∈ DX8_sink_0, decode cX8_sink q.1 = .ok (q.2.1, q.2.2) := by decide +kernel
theorem dX8_sink_0 : decode cX8_sink 0 = .ok (.iload_n 0, 1) := dd_all DX8_sink_0_ok 0 rfl
theorem dX8_sink_1 : decode cX8_sink 1 = .ok (.ifCond .ne 8, 3) := dd_all DX8_sink_0_ok 1 rfl
theorem dX8_sink_4 : decode cX8_sink 4 = .ok (.bipush 10, 2) := dd_all DX8_sink_0_ok 2 rfl
theorem dX8_sink_6 : decode cX8_sink 6 = .ok (.goto 25, 3) := dd_all DX8_sink_0_ok 3 rfl
theorem dX8_sink_9 : decode cX8_sink 9 = .ok (.iload_n 0, 1) := dd_all DX8_sink_0_ok 4 rfl
theorem dX8_sink_10 : decode cX8_sink 10 = .ok (.iconst 1, 1) := dd_all DX8_sink_0_ok 5 rfl
theorem dX8_sink_11 : decode cX8_sink 11 = .ok (.if_icmp .ne 8, 3) := dd_all DX8_sink_0_ok 6 rfl
theorem dX8_sink_14 : decode cX8_sink 14 = .ok (.bipush 8, 2) := dd_all DX8_sink_0_ok 7 rfl
theorem dX8_sink_16 : decode cX8_sink 16 = .ok (.goto 15, 3) := dd_all DX8_sink_0_ok 8 rfl
theorem dX8_sink_19 : decode cX8_sink 19 = .ok (.iload_n 0, 1) := dd_all DX8_sink_0_ok 9 rfl
theorem dX8_sink_20 : decode cX8_sink 20 = .ok (.iconst 2, 1) := dd_all DX8_sink_0_ok 10 rfl
theorem dX8_sink_21 : decode cX8_sink 21 = .ok (.if_icmp .ne 8, 3) := dd_all DX8_sink_0_ok 11 rfl
theorem dX8_sink_24 : decode cX8_sink 24 = .ok (.bipush 12, 2) := dd_all DX8_sink_0_ok 12 rfl
theorem dX8_sink_26 : decode cX8_sink 26 = .ok (.goto 5, 3) := dd_all DX8_sink_0_ok 13 rfl
theorem dX8_sink_29 : decode cX8_sink 29 = .ok (.bipush 6, 2) := dd_all DX8_sink_0_ok 14 rfl
theorem dX8_sink_31 : decode cX8_sink 31 = .ok (.ireturn, 1) := dd_all DX8_sink_0_ok 15 rfl
def DX8_fade_0 : List (Nat × Instr × Nat) := [(0, .iload_n 0, 1), (1, .ifCond .ne 8, 3), (4, .bipush 6, 2), (6, .goto 25, 3), (9, .iload_n 0, 1), (10, .iconst 1, 1), (11, .if_icmp .ne 8, 3), (14, .bipush 8, 2), (16, .goto 15, 3), (19, .iload_n 0, 1), (20, .iconst 2, 1), (21, .if_icmp .ne 8, 3), (24, .bipush 10, 2), (26, .goto 5, 3), (29, .bipush 16, 2), (31, .ireturn, 1)]
theorem DX8_fade_0_ok : ∀ q ∈ DX8_fade_0, decode cX8_fade q.1 = .ok (q.2.1, q.2.2) := by decide +kernel
theorem dX8_fade_0 : decode cX8_fade 0 = .ok (.iload_n 0, 1) := dd_all DX8_fade_0_ok 0 rfl
theorem dX8_fade_1 : decode cX8_fade 1 = .ok (.ifCond .ne 8, 3) := dd_all DX8_fade_0_ok 1 rfl
theorem dX8_fade_4 : decode cX8_fade 4 = .ok (.bipush 6, 2) := dd_all DX8_fade_0_ok 2 rfl
theorem dX8_fade_6 : decode cX8_fade 6 = .ok (.goto 25, 3) := dd_all DX8_fade_0_ok 3 rfl
theorem dX8_fade_9 : decode cX8_fade 9 = .ok (.iload_n 0, 1) := dd_all DX8_fade_0_ok 4 rfl
theorem dX8_fade_10 : decode cX8_fade 10 = .ok (.iconst 1, 1) := dd_all DX8_fade_0_ok 5 rfl
theorem dX8_fade_11 : decode cX8_fade 11 = .ok (.if_icmp .ne 8, 3) := dd_all DX8_fade_0_ok 6 rfl
theorem dX8_fade_14 : decode cX8_fade 14 = .ok (.bipush 8, 2) := dd_all DX8_fade_0_ok 7 rfl
theorem dX8_fade_16 : decode cX8_fade 16 = .ok (.goto 15, 3) := dd_all DX8_fade_0_ok 8 rfl
theorem dX8_fade_19 : decode cX8_fade 19 = .ok (.iload_n 0, 1) := dd_all DX8_fade_0_ok 9 rfl
theorem dX8_fade_20 : decode cX8_fade 20 = .ok (.iconst 2, 1) := dd_all DX8_fade_0_ok 10 rfl
theorem dX8_fade_21 : decode cX8_fade 21 = .ok (.if_icmp .ne 8, 3) := dd_all DX8_fade_0_ok 11 rfl
theorem dX8_fade_24 : decode cX8_fade 24 = .ok (.bipush 10, 2) := dd_all DX8_fade_0_ok 12 rfl
theorem dX8_fade_26 : decode cX8_fade 26 = .ok (.goto 5, 3) := dd_all DX8_fade_0_ok 13 rfl
theorem dX8_fade_29 : decode cX8_fade 29 = .ok (.bipush 16, 2) := dd_all DX8_fade_0_ok 14 rfl
theorem dX8_fade_31 : decode cX8_fade 31 = .ok (.ireturn, 1) := dd_all DX8_fade_0_ok 15 rfl
def DX8_peakOf_0 : List (Nat × Instr × Nat) := [(0, .bipush 8, 2), (2, .aload_n 0, 1), (3, .iload_n 1, 1), (4, .iconst 2, 1), (5, .invokevirtual 35, 3), (8, .imul, 1), (9, .ireturn, 1)]
theorem DX8_peakOf_0_ok : ∀ q ∈ DX8_peakOf_0, decode cX8_peakOf q.1 = .ok (q.2.1, q.2.2) := by decide +kernel
theorem dX8_peakOf_0 : decode cX8_peakOf 0 = .ok (.bipush 8, 2) := dd_all DX8_peakOf_0_ok 0 rfl
theorem dX8_peakOf_2 : decode cX8_peakOf 2 = .ok (.aload_n 0, 1) := dd_all DX8_peakOf_0_ok 1 rfl
theorem dX8_peakOf_3 : decode cX8_peakOf 3 = .ok (.iload_n 1, 1) := dd_all DX8_peakOf_0_ok 2 rfl
theorem dX8_peakOf_4 : decode cX8_peakOf 4 = .ok (.iconst 2, 1) := dd_all DX8_peakOf_0_ok 3 rfl
theorem dX8_peakOf_5 : decode cX8_peakOf 5 = .ok (.invokevirtual 35, 3) := dd_all DX8_peakOf_0_ok 4 rfl
theorem dX8_peakOf_8 : decode cX8_peakOf 8 = .ok (.imul, 1) := dd_all DX8_peakOf_0_ok 5 rfl
theorem dX8_peakOf_9 : decode cX8_peakOf 9 = .ok (.ireturn, 1) := dd_all DX8_peakOf_0_ok 6 rfl
def DX8_restOf_0 : List (Nat × Instr × Nat) := [(0, .aload_n 0, 1), (1, .iload_n 1, 1), (2, .invokevirtual 43, 3), (5, .sipush 600, 3), (8, .bipush 100, 2), (10, .aload_n 0, 1), (11, .iload_n 1, 1), (12, .iconst 0, 1), (13, .invokevirtual 35, 3), (16, .imul, 1), (17, .iadd, 1), (18, .imul, 1), (19, .sipush 1000, 3), (22, .idiv, 1), (23, .ireturn, 1)]
theorem DX8_restOf_0_ok : ∀ q ∈ DX8_restOf_0, decode cX8_restOf q.1 = .ok (q.2.1, q.2.2) := by decide +kernel
theorem dX8_restOf_0 : decode cX8_restOf 0 = .ok (.aload_n 0, 1) := dd_all DX8_restOf_0_ok 0 rfl
theorem dX8_restOf_1 : decode cX8_restOf 1 = .ok (.iload_n 1, 1) := dd_all DX8_restOf_0_ok 1 rfl
theorem dX8_restOf_2 : decode cX8_restOf 2 = .ok (.invokevirtual 43, 3) := dd_all DX8_restOf_0_ok 2 rfl
theorem dX8_restOf_5 : decode cX8_restOf 5 = .ok (.sipush 600, 3) := dd_all DX8_restOf_0_ok 3 rfl
theorem dX8_restOf_8 : decode cX8_restOf 8 = .ok (.bipush 100, 2) := dd_all DX8_restOf_0_ok 4 rfl
theorem dX8_restOf_10 : decode cX8_restOf 10 = .ok (.aload_n 0, 1) := dd_all DX8_restOf_0_ok 5 rfl
theorem dX8_restOf_11 : decode cX8_restOf 11 = .ok (.iload_n 1, 1) := dd_all DX8_restOf_0_ok 6 rfl
theorem dX8_restOf_12 : decode cX8_restOf 12 = .ok (.iconst 0, 1) := dd_all DX8_restOf_0_ok 7 rfl
theorem dX8_restOf_13 : decode cX8_restOf 13 = .ok (.invokevirtual 35, 3) := dd_all DX8_restOf_0_ok 8 rfl
theorem dX8_restOf_16 : decode cX8_restOf 16 = .ok (.imul, 1) := dd_all DX8_restOf_0_ok 9 rfl
theorem dX8_restOf_17 : decode cX8_restOf 17 = .ok (.iadd, 1) := dd_all DX8_restOf_0_ok 10 rfl
theorem dX8_restOf_18 : decode cX8_restOf 18 = .ok (.imul, 1) := dd_all DX8_restOf_0_ok 11 rfl
theorem dX8_restOf_19 : decode cX8_restOf 19 = .ok (.sipush 1000, 3) := dd_all DX8_restOf_0_ok 12 rfl
theorem dX8_restOf_22 : decode cX8_restOf 22 = .ok (.idiv, 1) := dd_all DX8_restOf_0_ok 13 rfl
theorem dX8_restOf_23 : decode cX8_restOf 23 = .ok (.ireturn, 1) := dd_all DX8_restOf_0_ok 14 rfl
def DX8_up_0 : List (Nat × Instr × Nat) := [(0, .iload_n 0, 1), (1, .iload_n 1, 1), (2, .iadd, 1), (3, .iconst 1, 1), (4, .isub, 1), (5, .iload_n 1, 1), (6, .idiv, 1), (7, .ireturn, 1)]
theorem DX8_up_0_ok : ∀ q ∈ DX8_up_0, decode cX8_up q.1 = .ok (q.2.1, q.2.2) := by decide +kernel
theorem dX8_up_0 : decode cX8_up 0 = .ok (.iload_n 0, 1) := dd_all DX8_up_0_ok 0 rfl
theorem dX8_up_1 : decode cX8_up 1 = .ok (.iload_n 1, 1) := dd_all DX8_up_0_ok 1 rfl
theorem dX8_up_2 : decode cX8_up 2 = .ok (.iadd, 1) := dd_all DX8_up_0_ok 2 rfl
theorem dX8_up_3 : decode cX8_up 3 = .ok (.iconst 1, 1) := dd_all DX8_up_0_ok 3 rfl
theorem dX8_up_4 : decode cX8_up 4 = .ok (.isub, 1) := dd_all DX8_up_0_ok 4 rfl
theorem dX8_up_5 : decode cX8_up 5 = .ok (.iload_n 1, 1) := dd_all DX8_up_0_ok 5 rfl
theorem dX8_up_6 : decode cX8_up 6 = .ok (.idiv, 1) := dd_all DX8_up_0_ok 6 rfl
theorem dX8_up_7 : decode cX8_up 7 = .ok (.ireturn, 1) := dd_all DX8_up_0_ok 7 rfl
def DX8_many_0 : List (Nat × Instr × Nat) := [(0, .iconst 0, 1), (1, .istore_n 2, 1), (2, .iconst 0, 1), (3, .istore_n 3, 1), (4, .iload_n 3, 1), (5, .aload_n 0, 1), (6, .getfield 7, 3), (9, .iconst 0, 1), (10, .iaload, 1), (11, .if_icmp .ge 27, 3), (14, .iload_n 2, 1), (15, .aload_n 0, 1), (16, .iload_n 3, 1), (17, .iconst 3, 1), (18, .invokevirtual 35, 3), (21, .iload_n 1, 1), (22, .if_icmp .ne 7, 3), (25, .iconst 1, 1), (26, .goto 4, 3), (29, .iconst 0, 1), (30, .iadd, 1), (31, .istore_n 2, 1), (32, .iinc 3 1, 3), (35, .goto (-31), 3), (38, .iload_n 2, 1), (39, .ireturn, 1)]
theorem DX8_many_0_ok : ∀ q ∈ DX8_many_0, decode cX8_many q.1 = .ok (q.2.1, q.2.2) := by decide +kernel
theorem dX8_many_0 : decode cX8_many 0 = .ok (.iconst 0, 1) := dd_all DX8_many_0_ok 0 rfl
theorem dX8_many_1 : decode cX8_many 1 = .ok (.istore_n 2, 1) := dd_all DX8_many_0_ok 1 rfl
theorem dX8_many_2 : decode cX8_many 2 = .ok (.iconst 0, 1) := dd_all DX8_many_0_ok 2 rfl
theorem dX8_many_3 : decode cX8_many 3 = .ok (.istore_n 3, 1) := dd_all DX8_many_0_ok 3 rfl
theorem dX8_many_4 : decode cX8_many 4 = .ok (.iload_n 3, 1) := dd_all DX8_many_0_ok 4 rfl
theorem dX8_many_5 : decode cX8_many 5 = .ok (.aload_n 0, 1) := dd_all DX8_many_0_ok 5 rfl
theorem dX8_many_6 : decode cX8_many 6 = .ok (.getfield 7, 3) := dd_all DX8_many_0_ok 6 rfl
theorem dX8_many_9 : decode cX8_many 9 = .ok (.iconst 0, 1) := dd_all DX8_many_0_ok 7 rfl
theorem dX8_many_10 : decode cX8_many 10 = .ok (.iaload, 1) := dd_all DX8_many_0_ok 8 rfl
theorem dX8_many_11 : decode cX8_many 11 = .ok (.if_icmp .ge 27, 3) := dd_all DX8_many_0_ok 9 rfl
theorem dX8_many_14 : decode cX8_many 14 = .ok (.iload_n 2, 1) := dd_all DX8_many_0_ok 10 rfl
theorem dX8_many_15 : decode cX8_many 15 = .ok (.aload_n 0, 1) := dd_all DX8_many_0_ok 11 rfl
theorem dX8_many_16 : decode cX8_many 16 = .ok (.iload_n 3, 1) := dd_all DX8_many_0_ok 12 rfl
theorem dX8_many_17 : decode cX8_many 17 = .ok (.iconst 3, 1) := dd_all DX8_many_0_ok 13 rfl
theorem dX8_many_18 : decode cX8_many 18 = .ok (.invokevirtual 35, 3) := dd_all DX8_many_0_ok 14 rfl
theorem dX8_many_21 : decode cX8_many 21 = .ok (.iload_n 1, 1) := dd_all DX8_many_0_ok 15 rfl
theorem dX8_many_22 : decode cX8_many 22 = .ok (.if_icmp .ne 7, 3) := dd_all DX8_many_0_ok 16 rfl
theorem dX8_many_25 : decode cX8_many 25 = .ok (.iconst 1, 1) := dd_all DX8_many_0_ok 17 rfl
theorem dX8_many_26 : decode cX8_many 26 = .ok (.goto 4, 3) := dd_all DX8_many_0_ok 18 rfl
theorem dX8_many_29 : decode cX8_many 29 = .ok (.iconst 0, 1) := dd_all DX8_many_0_ok 19 rfl
theorem dX8_many_30 : decode cX8_many 30 = .ok (.iadd, 1) := dd_all DX8_many_0_ok 20 rfl
theorem dX8_many_31 : decode cX8_many 31 = .ok (.istore_n 2, 1) := dd_all DX8_many_0_ok 21 rfl
theorem dX8_many_32 : decode cX8_many 32 = .ok (.iinc 3 1, 3) := dd_all DX8_many_0_ok 22 rfl
theorem dX8_many_35 : decode cX8_many 35 = .ok (.goto (-31), 3) := dd_all DX8_many_0_ok 23 rfl
theorem dX8_many_38 : decode cX8_many 38 = .ok (.iload_n 2, 1) := dd_all DX8_many_0_ok 24 rfl
theorem dX8_many_39 : decode cX8_many 39 = .ok (.ireturn, 1) := dd_all DX8_many_0_ok 25 rfl
def DX8_placed_0 : List (Nat × Instr × Nat) := [(0, .iconst 0, 1), (1, .istore_n 1, 1), (2, .iconst 0, 1), (3, .istore_n 2, 1), (4, .iload_n 2, 1), (5, .aload_n 0, 1), (6, .getfield 7, 3), (9, .iconst 0, 1), (10, .iaload, 1), (11, .if_icmp .ge 25, 3), (14, .iload_n 1, 1), (15, .aload_n 0, 1), (16, .iload_n 2, 1), (17, .invokevirtual 47, 3), (20, .ifCond .eq 7, 3), (23, .iconst 1, 1), (24, .goto 4, 3), (27, .iconst 0, 1), (28, .iadd, 1), (29, .istore_n 1, 1), (30, .iinc 2 1, 3), (33, .goto (-29), 3), (36, .iload_n 1, 1), (37, .ireturn, 1)]
theorem DX8_placed_0_ok : ∀ q ∈ DX8_placed_0, decode cX8_placed q.1 = .ok (q.2.1, q.2.2) := by decide +kernel
theorem dX8_placed_0 : decode cX8_placed 0 = .ok (.iconst 0, 1) := dd_all DX8_placed_0_ok 0 rfl
theorem dX8_placed_1 : decode cX8_placed 1 = .ok (.istore_n 1, 1) := dd_all DX8_placed_0_ok 1 rfl
theorem dX8_placed_2 : decode cX8_placed 2 = .ok (.iconst 0, 1) := dd_all DX8_placed_0_ok 2 rfl
theorem dX8_placed_3 : decode cX8_placed 3 = .ok (.istore_n 2, 1) := dd_all DX8_placed_0_ok 3 rfl
theorem dX8_placed_4 : decode cX8_placed 4 = .ok (.iload_n 2, 1) := dd_all DX8_placed_0_ok 4 rfl
theorem dX8_placed_5 : decode cX8_placed 5 = .ok (.aload_n 0, 1) := dd_all DX8_placed_0_ok 5 rfl
theorem dX8_placed_6 : decode cX8_placed 6 = .ok (.getfield 7, 3) := dd_all DX8_placed_0_ok 6 rfl
theorem dX8_placed_9 : decode cX8_placed 9 = .ok (.iconst 0, 1) := dd_all DX8_placed_0_ok 7 rfl
theorem dX8_placed_10 : decode cX8_placed 10 = .ok (.iaload, 1) := dd_all DX8_placed_0_ok 8 rfl
theorem dX8_placed_11 : decode cX8_placed 11 = .ok (.if_icmp .ge 25, 3) := dd_all DX8_placed_0_ok 9 rfl
theorem dX8_placed_14 : decode cX8_placed 14 = .ok (.iload_n 1, 1) := dd_all DX8_placed_0_ok 10 rfl
theorem dX8_placed_15 : decode cX8_placed 15 = .ok (.aload_n 0, 1) := dd_all DX8_placed_0_ok 11 rfl
theorem dX8_placed_16 : decode cX8_placed 16 = .ok (.iload_n 2, 1) := dd_all DX8_placed_0_ok 12 rfl
theorem dX8_placed_17 : decode cX8_placed 17 = .ok (.invokevirtual 47, 3) := dd_all DX8_placed_0_ok 13 rfl
theorem dX8_placed_20 : decode cX8_placed 20 = .ok (.ifCond .eq 7, 3) := dd_all DX8_placed_0_ok 14 rfl
theorem dX8_placed_23 : decode cX8_placed 23 = .ok (.iconst 1, 1) := dd_all DX8_placed_0_ok 15 rfl
theorem dX8_placed_24 : decode cX8_placed 24 = .ok (.goto 4, 3) := dd_all DX8_placed_0_ok 16 rfl
theorem dX8_placed_27 : decode cX8_placed 27 = .ok (.iconst 0, 1) := dd_all DX8_placed_0_ok 17 rfl
theorem dX8_placed_28 : decode cX8_placed 28 = .ok (.iadd, 1) := dd_all DX8_placed_0_ok 18 rfl
theorem dX8_placed_29 : decode cX8_placed 29 = .ok (.istore_n 1, 1) := dd_all DX8_placed_0_ok 19 rfl
theorem dX8_placed_30 : decode cX8_placed 30 = .ok (.iinc 2 1, 3) := dd_all DX8_placed_0_ok 20 rfl
theorem dX8_placed_33 : decode cX8_placed 33 = .ok (.goto (-29), 3) := dd_all DX8_placed_0_ok 21 rfl
theorem dX8_placed_36 : decode cX8_placed 36 = .ok (.iload_n 1, 1) := dd_all DX8_placed_0_ok 22 rfl
theorem dX8_placed_37 : decode cX8_placed 37 = .ok (.ireturn, 1) := dd_all DX8_placed_0_ok 23 rfl
def DX8_voiceOf_0 : List (Nat × Instr × Nat) := [(0, .bipush (-4), 2), (2, .istore_n 3, 1), (3, .iconst 0, 1), (4, .istore 4, 2), (6, .iload 4, 2), (8, .aload_n 0, 1), (9, .getfield 7, 3), (12, .iconst 0, 1), (13, .iaload, 1), (14, .if_icmp .ge 47, 3), (17, .aload_n 0, 1), (18, .iload 4, 2), (20, .invokevirtual 47, 3), (23, .ifCond .eq 30, 3), (26, .aload_n 0, 1), (27, .iload 4, 2), (29, .iconst 0, 1), (30, .invokevirtual 35, 3), (33, .iload_n 1, 1), (34, .if_icmp .ne 19, 3), (37, .aload_n 0, 1), (38, .iload 4, 2), (40, .iconst 1, 1), (41, .invokevirtual 35, 3), (44, .iload_n 2, 1), (45, .if_icmp .ne 8, 3), (48, .iload 4, 2), (50, .goto 4, 3), (53, .iload_n 3, 1), (54, .istore_n 3, 1), (55, .iinc 4 1, 3), (58, .goto (-52), 3), (61, .iload_n 3, 1), (62, .ireturn, 1)]
theorem DX8_voiceOf_0_ok : ∀ q ∈ DX8_voiceOf_0, decode cX8_voiceOf q.1 = .ok (q.2.1, q.2.2) := by decide +kernel
theorem dX8_voiceOf_0 : decode cX8_voiceOf 0 = .ok (.bipush (-4), 2) := dd_all DX8_voiceOf_0_ok 0 rfl
theorem dX8_voiceOf_2 : decode cX8_voiceOf 2 = .ok (.istore_n 3, 1) := dd_all DX8_voiceOf_0_ok 1 rfl
theorem dX8_voiceOf_3 : decode cX8_voiceOf 3 = .ok (.iconst 0, 1) := dd_all DX8_voiceOf_0_ok 2 rfl
theorem dX8_voiceOf_4 : decode cX8_voiceOf 4 = .ok (.istore 4, 2) := dd_all DX8_voiceOf_0_ok 3 rfl
theorem dX8_voiceOf_6 : decode cX8_voiceOf 6 = .ok (.iload 4, 2) := dd_all DX8_voiceOf_0_ok 4 rfl
theorem dX8_voiceOf_8 : decode cX8_voiceOf 8 = .ok (.aload_n 0, 1) := dd_all DX8_voiceOf_0_ok 5 rfl
theorem dX8_voiceOf_9 : decode cX8_voiceOf 9 = .ok (.getfield 7, 3) := dd_all DX8_voiceOf_0_ok 6 rfl
theorem dX8_voiceOf_12 : decode cX8_voiceOf 12 = .ok (.iconst 0, 1) := dd_all DX8_voiceOf_0_ok 7 rfl
theorem dX8_voiceOf_13 : decode cX8_voiceOf 13 = .ok (.iaload, 1) := dd_all DX8_voiceOf_0_ok 8 rfl
theorem dX8_voiceOf_14 : decode cX8_voiceOf 14 = .ok (.if_icmp .ge 47, 3) := dd_all DX8_voiceOf_0_ok 9 rfl
theorem dX8_voiceOf_17 : decode cX8_voiceOf 17 = .ok (.aload_n 0, 1) := dd_all DX8_voiceOf_0_ok 10 rfl
theorem dX8_voiceOf_18 : decode cX8_voiceOf 18 = .ok (.iload 4, 2) := dd_all DX8_voiceOf_0_ok 11 rfl
theorem dX8_voiceOf_20 : decode cX8_voiceOf 20 = .ok (.invokevirtual 47, 3) := dd_all DX8_voiceOf_0_ok 12 rfl
theorem dX8_voiceOf_23 : decode cX8_voiceOf 23 = .ok (.ifCond .eq 30, 3) := dd_all DX8_voiceOf_0_ok 13 rfl
theorem dX8_voiceOf_26 : decode cX8_voiceOf 26 = .ok (.aload_n 0, 1) := dd_all DX8_voiceOf_0_ok 14 rfl
theorem dX8_voiceOf_27 : decode cX8_voiceOf 27 = .ok (.iload 4, 2) := dd_all DX8_voiceOf_0_ok 15 rfl
theorem dX8_voiceOf_29 : decode cX8_voiceOf 29 = .ok (.iconst 0, 1) := dd_all DX8_voiceOf_0_ok 16 rfl
theorem dX8_voiceOf_30 : decode cX8_voiceOf 30 = .ok (.invokevirtual 35, 3) := dd_all DX8_voiceOf_0_ok 17 rfl
theorem dX8_voiceOf_33 : decode cX8_voiceOf 33 = .ok (.iload_n 1, 1) := dd_all DX8_voiceOf_0_ok 18 rfl
theorem dX8_voiceOf_34 : decode cX8_voiceOf 34 = .ok (.if_icmp .ne 19, 3) := dd_all DX8_voiceOf_0_ok 19 rfl
theorem dX8_voiceOf_37 : decode cX8_voiceOf 37 = .ok (.aload_n 0, 1) := dd_all DX8_voiceOf_0_ok 20 rfl
theorem dX8_voiceOf_38 : decode cX8_voiceOf 38 = .ok (.iload 4, 2) := dd_all DX8_voiceOf_0_ok 21 rfl
theorem dX8_voiceOf_40 : decode cX8_voiceOf 40 = .ok (.iconst 1, 1) := dd_all DX8_voiceOf_0_ok 22 rfl
theorem dX8_voiceOf_41 : decode cX8_voiceOf 41 = .ok (.invokevirtual 35, 3) := dd_all DX8_voiceOf_0_ok 23 rfl
theorem dX8_voiceOf_44 : decode cX8_voiceOf 44 = .ok (.iload_n 2, 1) := dd_all DX8_voiceOf_0_ok 24 rfl
theorem dX8_voiceOf_45 : decode cX8_voiceOf 45 = .ok (.if_icmp .ne 8, 3) := dd_all DX8_voiceOf_0_ok 25 rfl
theorem dX8_voiceOf_48 : decode cX8_voiceOf 48 = .ok (.iload 4, 2) := dd_all DX8_voiceOf_0_ok 26 rfl
theorem dX8_voiceOf_50 : decode cX8_voiceOf 50 = .ok (.goto 4, 3) := dd_all DX8_voiceOf_0_ok 27 rfl
theorem dX8_voiceOf_53 : decode cX8_voiceOf 53 = .ok (.iload_n 3, 1) := dd_all DX8_voiceOf_0_ok 28 rfl
theorem dX8_voiceOf_54 : decode cX8_voiceOf 54 = .ok (.istore_n 3, 1) := dd_all DX8_voiceOf_0_ok 29 rfl
theorem dX8_voiceOf_55 : decode cX8_voiceOf 55 = .ok (.iinc 4 1, 3) := dd_all DX8_voiceOf_0_ok 30 rfl
theorem dX8_voiceOf_58 : decode cX8_voiceOf 58 = .ok (.goto (-52), 3) := dd_all DX8_voiceOf_0_ok 31 rfl
theorem dX8_voiceOf_61 : decode cX8_voiceOf 61 = .ok (.iload_n 3, 1) := dd_all DX8_voiceOf_0_ok 32 rfl
theorem dX8_voiceOf_62 : decode cX8_voiceOf 62 = .ok (.ireturn, 1) := dd_all DX8_voiceOf_0_ok 33 rfl
def DX8_sings_0 : List (Nat × Instr × Nat) := [(0, .aload_n 0, 1), (1, .iload_n 1, 1), (2, .iconst 3, 1), (3, .iconst 1, 1), (4, .invokevirtual 51, 3), (7, .aload_n 0, 1), (8, .iload_n 1, 1), (9, .iconst 4, 1), (10, .iconst 0, 1), (11, .invokevirtual 51, 3), (14, .aload_n 0, 1), (15, .iload_n 1, 1), (16, .bipush 6, 2), (18, .iconst 0, 1), (19, .invokevirtual 51, 3), (22, .aload_n 0, 1), (23, .iload_n 1, 1), (24, .bipush 7, 2), (26, .aload_n 0, 1), (27, .getfield 7, 3), (30, .iconst 5, 1), (31, .iaload, 1), (32, .invokevirtual 51, 3), (35, .aload_n 0, 1), (36, .getfield 7, 3), (39, .iconst 5, 1), (40, .dup2, 1), (41, .iaload, 1), (42, .iconst 1, 1), (43, .iadd, 1), (44, .iastore, 1), (45, .return_, 1)]
theorem DX8_sings_0_ok : ∀ q ∈ DX8_sings_0, decode cX8_sings q.1 = .ok (q.2.1, q.2.2) := by decide +kernel
theorem dX8_sings_0 : decode cX8_sings 0 = .ok (.aload_n 0, 1) := dd_all DX8_sings_0_ok 0 rfl
theorem dX8_sings_1 : decode cX8_sings 1 = .ok (.iload_n 1, 1) := dd_all DX8_sings_0_ok 1 rfl
theorem dX8_sings_2 : decode cX8_sings 2 = .ok (.iconst 3, 1) := dd_all DX8_sings_0_ok 2 rfl
theorem dX8_sings_3 : decode cX8_sings 3 = .ok (.iconst 1, 1) := dd_all DX8_sings_0_ok 3 rfl
theorem dX8_sings_4 : decode cX8_sings 4 = .ok (.invokevirtual 51, 3) := dd_all DX8_sings_0_ok 4 rfl
theorem dX8_sings_7 : decode cX8_sings 7 = .ok (.aload_n 0, 1) := dd_all DX8_sings_0_ok 5 rfl
theorem dX8_sings_8 : decode cX8_sings 8 = .ok (.iload_n 1, 1) := dd_all DX8_sings_0_ok 6 rfl
theorem dX8_sings_9 : decode cX8_sings 9 = .ok (.iconst 4, 1) := dd_all DX8_sings_0_ok 7 rfl
theorem dX8_sings_10 : decode cX8_sings 10 = .ok (.iconst 0, 1) := dd_all DX8_sings_0_ok 8 rfl
theorem dX8_sings_11 : decode cX8_sings 11 = .ok (.invokevirtual 51, 3) := dd_all DX8_sings_0_ok 9 rfl
theorem dX8_sings_14 : decode cX8_sings 14 = .ok (.aload_n 0, 1) := dd_all DX8_sings_0_ok 10 rfl
theorem dX8_sings_15 : decode cX8_sings 15 = .ok (.iload_n 1, 1) := dd_all DX8_sings_0_ok 11 rfl
theorem dX8_sings_16 : decode cX8_sings 16 = .ok (.bipush 6, 2) := dd_all DX8_sings_0_ok 12 rfl
theorem dX8_sings_18 : decode cX8_sings 18 = .ok (.iconst 0, 1) := dd_all DX8_sings_0_ok 13 rfl
theorem dX8_sings_19 : decode cX8_sings 19 = .ok (.invokevirtual 51, 3) := dd_all DX8_sings_0_ok 14 rfl
theorem dX8_sings_22 : decode cX8_sings 22 = .ok (.aload_n 0, 1) := dd_all DX8_sings_0_ok 15 rfl
theorem dX8_sings_23 : decode cX8_sings 23 = .ok (.iload_n 1, 1) := dd_all DX8_sings_0_ok 16 rfl
theorem dX8_sings_24 : decode cX8_sings 24 = .ok (.bipush 7, 2) := dd_all DX8_sings_0_ok 17 rfl
theorem dX8_sings_26 : decode cX8_sings 26 = .ok (.aload_n 0, 1) := dd_all DX8_sings_0_ok 18 rfl
theorem dX8_sings_27 : decode cX8_sings 27 = .ok (.getfield 7, 3) := dd_all DX8_sings_0_ok 19 rfl
theorem dX8_sings_30 : decode cX8_sings 30 = .ok (.iconst 5, 1) := dd_all DX8_sings_0_ok 20 rfl
theorem dX8_sings_31 : decode cX8_sings 31 = .ok (.iaload, 1) := dd_all DX8_sings_0_ok 21 rfl
theorem dX8_sings_32 : decode cX8_sings 32 = .ok (.invokevirtual 51, 3) := dd_all DX8_sings_0_ok 22 rfl
theorem dX8_sings_35 : decode cX8_sings 35 = .ok (.aload_n 0, 1) := dd_all DX8_sings_0_ok 23 rfl
theorem dX8_sings_36 : decode cX8_sings 36 = .ok (.getfield 7, 3) := dd_all DX8_sings_0_ok 24 rfl
theorem dX8_sings_39 : decode cX8_sings 39 = .ok (.iconst 5, 1) := dd_all DX8_sings_0_ok 25 rfl
theorem dX8_sings_40 : decode cX8_sings 40 = .ok (.dup2, 1) := dd_all DX8_sings_0_ok 26 rfl
theorem dX8_sings_41 : decode cX8_sings 41 = .ok (.iaload, 1) := dd_all DX8_sings_0_ok 27 rfl
theorem dX8_sings_42 : decode cX8_sings 42 = .ok (.iconst 1, 1) := dd_all DX8_sings_0_ok 28 rfl
theorem dX8_sings_43 : decode cX8_sings 43 = .ok (.iadd, 1) := dd_all DX8_sings_0_ok 29 rfl
theorem dX8_sings_44 : decode cX8_sings 44 = .ok (.iastore, 1) := dd_all DX8_sings_0_ok 30 rfl
theorem dX8_sings_45 : decode cX8_sings 45 = .ok (.return_, 1) := dd_all DX8_sings_0_ok 31 rfl
def DX8_anew_0 : List (Nat × Instr × Nat) := [(0, .aload_n 0, 1), (1, .iload_n 1, 1), (2, .iconst 2, 1), (3, .iload_n 2, 1), (4, .invokevirtual 51, 3), (7, .aload_n 0, 1), (8, .iload_n 1, 1), (9, .iconst 3, 1), (10, .aload_n 0, 1), (11, .iload_n 1, 1), (12, .iconst 4, 1), (13, .invokevirtual 35, 3), (16, .aload_n 0, 1), (17, .iload_n 1, 1), (18, .invokevirtual 43, 3), (21, .if_icmp .lt 7, 3), (24, .iconst 2, 1), (25, .goto 4, 3), (28, .iconst 1, 1), (29, .invokevirtual 51, 3), (32, .aload_n 0, 1), (33, .iload_n 1, 1), (34, .bipush 6, 2), (36, .iconst 0, 1), (37, .invokevirtual 51, 3), (40, .aload_n 0, 1), (41, .iload_n 1, 1), (42, .bipush 7, 2), (44, .aload_n 0, 1), (45, .getfield 7, 3), (48, .iconst 5, 1), (49, .iaload, 1), (50, .invokevirtual 51, 3), (53, .aload_n 0, 1), (54, .getfield 7, 3), (57, .iconst 5, 1), (58, .dup2, 1), (59, .iaload, 1), (60, .iconst 1, 1), (61, .iadd, 1)]
theorem DX8_anew_0_ok : ∀ q ∈ DX8_anew_0, decode cX8_anew q.1 = .ok (q.2.1, q.2.2) := by decide +kernel
theorem dX8_anew_0 : decode cX8_anew 0 = .ok (.aload_n 0, 1) := dd_all DX8_anew_0_ok 0 rfl
theorem dX8_anew_1 : decode cX8_anew 1 = .ok (.iload_n 1, 1) := dd_all DX8_anew_0_ok 1 rfl
theorem dX8_anew_2 : decode cX8_anew 2 = .ok (.iconst 2, 1) := dd_all DX8_anew_0_ok 2 rfl
theorem dX8_anew_3 : decode cX8_anew 3 = .ok (.iload_n 2, 1) := dd_all DX8_anew_0_ok 3 rfl
theorem dX8_anew_4 : decode cX8_anew 4 = .ok (.invokevirtual 51, 3) := dd_all DX8_anew_0_ok 4 rfl
theorem dX8_anew_7 : decode cX8_anew 7 = .ok (.aload_n 0, 1) := dd_all DX8_anew_0_ok 5 rfl
theorem dX8_anew_8 : decode cX8_anew 8 = .ok (.iload_n 1, 1) := dd_all DX8_anew_0_ok 6 rfl
theorem dX8_anew_9 : decode cX8_anew 9 = .ok (.iconst 3, 1) := dd_all DX8_anew_0_ok 7 rfl
theorem dX8_anew_10 : decode cX8_anew 10 = .ok (.aload_n 0, 1) := dd_all DX8_anew_0_ok 8 rfl
theorem dX8_anew_11 : decode cX8_anew 11 = .ok (.iload_n 1, 1) := dd_all DX8_anew_0_ok 9 rfl
theorem dX8_anew_12 : decode cX8_anew 12 = .ok (.iconst 4, 1) := dd_all DX8_anew_0_ok 10 rfl
theorem dX8_anew_13 : decode cX8_anew 13 = .ok (.invokevirtual 35, 3) := dd_all DX8_anew_0_ok 11 rfl
theorem dX8_anew_16 : decode cX8_anew 16 = .ok (.aload_n 0, 1) := dd_all DX8_anew_0_ok 12 rfl
theorem dX8_anew_17 : decode cX8_anew 17 = .ok (.iload_n 1, 1) := dd_all DX8_anew_0_ok 13 rfl
theorem dX8_anew_18 : decode cX8_anew 18 = .ok (.invokevirtual 43, 3) := dd_all DX8_anew_0_ok 14 rfl
theorem dX8_anew_21 : decode cX8_anew 21 = .ok (.if_icmp .lt 7, 3) := dd_all DX8_anew_0_ok 15 rfl
theorem dX8_anew_24 : decode cX8_anew 24 = .ok (.iconst 2, 1) := dd_all DX8_anew_0_ok 16 rfl
theorem dX8_anew_25 : decode cX8_anew 25 = .ok (.goto 4, 3) := dd_all DX8_anew_0_ok 17 rfl
theorem dX8_anew_28 : decode cX8_anew 28 = .ok (.iconst 1, 1) := dd_all DX8_anew_0_ok 18 rfl
theorem dX8_anew_29 : decode cX8_anew 29 = .ok (.invokevirtual 51, 3) := dd_all DX8_anew_0_ok 19 rfl
theorem dX8_anew_32 : decode cX8_anew 32 = .ok (.aload_n 0, 1) := dd_all DX8_anew_0_ok 20 rfl
theorem dX8_anew_33 : decode cX8_anew 33 = .ok (.iload_n 1, 1) := dd_all DX8_anew_0_ok 21 rfl
theorem dX8_anew_34 : decode cX8_anew 34 = .ok (.bipush 6, 2) := dd_all DX8_anew_0_ok 22 rfl
theorem dX8_anew_36 : decode cX8_anew 36 = .ok (.iconst 0, 1) := dd_all DX8_anew_0_ok 23 rfl
theorem dX8_anew_37 : decode cX8_anew 37 = .ok (.invokevirtual 51, 3) := dd_all DX8_anew_0_ok 24 rfl
theorem dX8_anew_40 : decode cX8_anew 40 = .ok (.aload_n 0, 1) := dd_all DX8_anew_0_ok 25 rfl
theorem dX8_anew_41 : decode cX8_anew 41 = .ok (.iload_n 1, 1) := dd_all DX8_anew_0_ok 26 rfl
theorem dX8_anew_42 : decode cX8_anew 42 = .ok (.bipush 7, 2) := dd_all DX8_anew_0_ok 27 rfl
theorem dX8_anew_44 : decode cX8_anew 44 = .ok (.aload_n 0, 1) := dd_all DX8_anew_0_ok 28 rfl
theorem dX8_anew_45 : decode cX8_anew 45 = .ok (.getfield 7, 3) := dd_all DX8_anew_0_ok 29 rfl
theorem dX8_anew_48 : decode cX8_anew 48 = .ok (.iconst 5, 1) := dd_all DX8_anew_0_ok 30 rfl
theorem dX8_anew_49 : decode cX8_anew 49 = .ok (.iaload, 1) := dd_all DX8_anew_0_ok 31 rfl
theorem dX8_anew_50 : decode cX8_anew 50 = .ok (.invokevirtual 51, 3) := dd_all DX8_anew_0_ok 32 rfl
theorem dX8_anew_53 : decode cX8_anew 53 = .ok (.aload_n 0, 1) := dd_all DX8_anew_0_ok 33 rfl
theorem dX8_anew_54 : decode cX8_anew 54 = .ok (.getfield 7, 3) := dd_all DX8_anew_0_ok 34 rfl
theorem dX8_anew_57 : decode cX8_anew 57 = .ok (.iconst 5, 1) := dd_all DX8_anew_0_ok 35 rfl
theorem dX8_anew_58 : decode cX8_anew 58 = .ok (.dup2, 1) := dd_all DX8_anew_0_ok 36 rfl
theorem dX8_anew_59 : decode cX8_anew 59 = .ok (.iaload, 1) := dd_all DX8_anew_0_ok 37 rfl
theorem dX8_anew_60 : decode cX8_anew 60 = .ok (.iconst 1, 1) := dd_all DX8_anew_0_ok 38 rfl
theorem dX8_anew_61 : decode cX8_anew 61 = .ok (.iadd, 1) := dd_all DX8_anew_0_ok 39 rfl
def DX8_anew_40 : List (Nat × Instr × Nat) := [(62, .iastore, 1), (63, .aload_n 0, 1), (64, .getfield 7, 3), (67, .iconst 4, 1), (68, .dup2, 1), (69, .iaload, 1), (70, .iconst 1, 1), (71, .iadd, 1), (72, .iastore, 1), (73, .return_, 1)]
theorem DX8_anew_40_ok : ∀ q ∈ DX8_anew_40, decode cX8_anew q.1 = .ok (q.2.1, q.2.2) := by decide +kernel
theorem dX8_anew_62 : decode cX8_anew 62 = .ok (.iastore, 1) := dd_all DX8_anew_40_ok 0 rfl
theorem dX8_anew_63 : decode cX8_anew 63 = .ok (.aload_n 0, 1) := dd_all DX8_anew_40_ok 1 rfl
theorem dX8_anew_64 : decode cX8_anew 64 = .ok (.getfield 7, 3) := dd_all DX8_anew_40_ok 2 rfl
theorem dX8_anew_67 : decode cX8_anew 67 = .ok (.iconst 4, 1) := dd_all DX8_anew_40_ok 3 rfl
theorem dX8_anew_68 : decode cX8_anew 68 = .ok (.dup2, 1) := dd_all DX8_anew_40_ok 4 rfl
theorem dX8_anew_69 : decode cX8_anew 69 = .ok (.iaload, 1) := dd_all DX8_anew_40_ok 5 rfl
theorem dX8_anew_70 : decode cX8_anew 70 = .ok (.iconst 1, 1) := dd_all DX8_anew_40_ok 6 rfl
theorem dX8_anew_71 : decode cX8_anew 71 = .ok (.iadd, 1) := dd_all DX8_anew_40_ok 7 rfl
theorem dX8_anew_72 : decode cX8_anew 72 = .ok (.iastore, 1) := dd_all DX8_anew_40_ok 8 rfl
theorem dX8_anew_73 : decode cX8_anew 73 = .ok (.return_, 1) := dd_all DX8_anew_40_ok 9 rfl
def DX8_sentHome_0 : List (Nat × Instr × Nat) := [(0, .aload_n 0, 1), (1, .iconst 4, 1), (2, .invokevirtual 55, 3), (5, .ifCond .le 7, 3), (8, .iconst 1, 1), (9, .goto 4, 3), (12, .iconst 0, 1), (13, .istore_n 1, 1), (14, .bipush (-4), 2), (16, .istore_n 2, 1), (17, .iconst 0, 1), (18, .istore_n 3, 1), (19, .iload_n 3, 1), (20, .aload_n 0, 1), (21, .getfield 7, 3), (24, .iconst 0, 1), (25, .iaload, 1), (26, .if_icmp .ge 151, 3), (29, .aload_n 0, 1), (30, .getfield 7, 3), (33, .bipush 7, 2), (35, .iaload, 1), (36, .iconst 2, 1), (37, .if_icmp .ge 140, 3), (40, .iload_n 1, 1), (41, .ifCond .eq 16, 3), (44, .aload_n 0, 1), (45, .iload_n 3, 1), (46, .iconst 3, 1), (47, .invokevirtual 35, 3), (50, .iconst 4, 1), (51, .if_icmp .ne 120, 3), (54, .goto 11, 3), (57, .aload_n 0, 1), (58, .iload_n 3, 1), (59, .invokevirtual 47, 3), (62, .ifCond .eq 109, 3), (65, .iload_n 2, 1), (66, .ifCond .lt 28, 3), (69, .aload_n 0, 1)]
theorem DX8_sentHome_0_ok : ∀ q ∈ DX8_sentHome_0, decode cX8_sentHome q.1 = .ok (q.2.1, q.2.2) := by decide +kernel
theorem dX8_sentHome_0 : decode cX8_sentHome 0 = .ok (.aload_n 0, 1) := dd_all DX8_sentHome_0_ok 0 rfl
theorem dX8_sentHome_1 : decode cX8_sentHome 1 = .ok (.iconst 4, 1) := dd_all DX8_sentHome_0_ok 1 rfl
theorem dX8_sentHome_2 : decode cX8_sentHome 2 = .ok (.invokevirtual 55, 3) := dd_all DX8_sentHome_0_ok 2 rfl
theorem dX8_sentHome_5 : decode cX8_sentHome 5 = .ok (.ifCond .le 7, 3) := dd_all DX8_sentHome_0_ok 3 rfl
theorem dX8_sentHome_8 : decode cX8_sentHome 8 = .ok (.iconst 1, 1) := dd_all DX8_sentHome_0_ok 4 rfl
theorem dX8_sentHome_9 : decode cX8_sentHome 9 = .ok (.goto 4, 3) := dd_all DX8_sentHome_0_ok 5 rfl
theorem dX8_sentHome_12 : decode cX8_sentHome 12 = .ok (.iconst 0, 1) := dd_all DX8_sentHome_0_ok 6 rfl
theorem dX8_sentHome_13 : decode cX8_sentHome 13 = .ok (.istore_n 1, 1) := dd_all DX8_sentHome_0_ok 7 rfl
theorem dX8_sentHome_14 : decode cX8_sentHome 14 = .ok (.bipush (-4), 2) := dd_all DX8_sentHome_0_ok 8 rfl
theorem dX8_sentHome_16 : decode cX8_sentHome 16 = .ok (.istore_n 2, 1) := dd_all DX8_sentHome_0_ok 9 rfl
theorem dX8_sentHome_17 : decode cX8_sentHome 17 = .ok (.iconst 0, 1) := dd_all DX8_sentHome_0_ok 10 rfl
theorem dX8_sentHome_18 : decode cX8_sentHome 18 = .ok (.istore_n 3, 1) := dd_all DX8_sentHome_0_ok 11 rfl
theorem dX8_sentHome_19 : decode cX8_sentHome 19 = .ok (.iload_n 3, 1) := dd_all DX8_sentHome_0_ok 12 rfl
theorem dX8_sentHome_20 : decode cX8_sentHome 20 = .ok (.aload_n 0, 1) := dd_all DX8_sentHome_0_ok 13 rfl
theorem dX8_sentHome_21 : decode cX8_sentHome 21 = .ok (.getfield 7, 3) := dd_all DX8_sentHome_0_ok 14 rfl
theorem dX8_sentHome_24 : decode cX8_sentHome 24 = .ok (.iconst 0, 1) := dd_all DX8_sentHome_0_ok 15 rfl
theorem dX8_sentHome_25 : decode cX8_sentHome 25 = .ok (.iaload, 1) := dd_all DX8_sentHome_0_ok 16 rfl
theorem dX8_sentHome_26 : decode cX8_sentHome 26 = .ok (.if_icmp .ge 151, 3) := dd_all DX8_sentHome_0_ok 17 rfl
theorem dX8_sentHome_29 : decode cX8_sentHome 29 = .ok (.aload_n 0, 1) := dd_all DX8_sentHome_0_ok 18 rfl
theorem dX8_sentHome_30 : decode cX8_sentHome 30 = .ok (.getfield 7, 3) := dd_all DX8_sentHome_0_ok 19 rfl
theorem dX8_sentHome_33 : decode cX8_sentHome 33 = .ok (.bipush 7, 2) := dd_all DX8_sentHome_0_ok 20 rfl
theorem dX8_sentHome_35 : decode cX8_sentHome 35 = .ok (.iaload, 1) := dd_all DX8_sentHome_0_ok 21 rfl
theorem dX8_sentHome_36 : decode cX8_sentHome 36 = .ok (.iconst 2, 1) := dd_all DX8_sentHome_0_ok 22 rfl
theorem dX8_sentHome_37 : decode cX8_sentHome 37 = .ok (.if_icmp .ge 140, 3) := dd_all DX8_sentHome_0_ok 23 rfl
theorem dX8_sentHome_40 : decode cX8_sentHome 40 = .ok (.iload_n 1, 1) := dd_all DX8_sentHome_0_ok 24 rfl
theorem dX8_sentHome_41 : decode cX8_sentHome 41 = .ok (.ifCond .eq 16, 3) := dd_all DX8_sentHome_0_ok 25 rfl
theorem dX8_sentHome_44 : decode cX8_sentHome 44 = .ok (.aload_n 0, 1) := dd_all DX8_sentHome_0_ok 26 rfl
theorem dX8_sentHome_45 : decode cX8_sentHome 45 = .ok (.iload_n 3, 1) := dd_all DX8_sentHome_0_ok 27 rfl
theorem dX8_sentHome_46 : decode cX8_sentHome 46 = .ok (.iconst 3, 1) := dd_all DX8_sentHome_0_ok 28 rfl
theorem dX8_sentHome_47 : decode cX8_sentHome 47 = .ok (.invokevirtual 35, 3) := dd_all DX8_sentHome_0_ok 29 rfl
theorem dX8_sentHome_50 : decode cX8_sentHome 50 = .ok (.iconst 4, 1) := dd_all DX8_sentHome_0_ok 30 rfl
theorem dX8_sentHome_51 : decode cX8_sentHome 51 = .ok (.if_icmp .ne 120, 3) := dd_all DX8_sentHome_0_ok 31 rfl
theorem dX8_sentHome_54 : decode cX8_sentHome 54 = .ok (.goto 11, 3) := dd_all DX8_sentHome_0_ok 32 rfl
theorem dX8_sentHome_57 : decode cX8_sentHome 57 = .ok (.aload_n 0, 1) := dd_all DX8_sentHome_0_ok 33 rfl
theorem dX8_sentHome_58 : decode cX8_sentHome 58 = .ok (.iload_n 3, 1) := dd_all DX8_sentHome_0_ok 34 rfl
theorem dX8_sentHome_59 : decode cX8_sentHome 59 = .ok (.invokevirtual 47, 3) := dd_all DX8_sentHome_0_ok 35 rfl
theorem dX8_sentHome_62 : decode cX8_sentHome 62 = .ok (.ifCond .eq 109, 3) := dd_all DX8_sentHome_0_ok 36 rfl
theorem dX8_sentHome_65 : decode cX8_sentHome 65 = .ok (.iload_n 2, 1) := dd_all DX8_sentHome_0_ok 37 rfl
theorem dX8_sentHome_66 : decode cX8_sentHome 66 = .ok (.ifCond .lt 28, 3) := dd_all DX8_sentHome_0_ok 38 rfl
theorem dX8_sentHome_69 : decode cX8_sentHome 69 = .ok (.aload_n 0, 1) := dd_all DX8_sentHome_0_ok 39 rfl
def DX8_sentHome_40 : List (Nat × Instr × Nat) := [(70, .getfield 7, 3), (73, .bipush 7, 2), (75, .iaload, 1), (76, .ifCond .ne 22, 3), (79, .aload_n 0, 1), (80, .iload_n 3, 1), (81, .iconst 4, 1), (82, .invokevirtual 35, 3), (85, .aload_n 0, 1), (86, .iload_n 2, 1), (87, .iconst 4, 1), (88, .invokevirtual 35, 3), (91, .if_icmp .ge 7, 3), (94, .iconst 1, 1), (95, .goto 4, 3), (98, .iconst 0, 1), (99, .istore 4, 2), (101, .iload_n 2, 1), (102, .ifCond .lt 33, 3), (105, .aload_n 0, 1), (106, .getfield 7, 3), (109, .bipush 7, 2), (111, .iaload, 1), (112, .iconst 1, 1), (113, .if_icmp .eq 18, 3), (116, .aload_n 0, 1), (117, .iload_n 3, 1), (118, .iconst 4, 1), (119, .invokevirtual 35, 3), (122, .aload_n 0, 1), (123, .iload_n 2, 1), (124, .iconst 4, 1), (125, .invokevirtual 35, 3), (128, .if_icmp .ne 7, 3), (131, .iconst 1, 1), (132, .goto 4, 3), (135, .iconst 0, 1), (136, .istore 5, 2), (138, .iload 4, 2), (140, .ifCond .ne 25, 3)]
theorem DX8_sentHome_40_ok : ∀ q ∈ DX8_sentHome_40, decode cX8_sentHome q.1 = .ok (q.2.1, q.2.2) := by decide +kernel
theorem dX8_sentHome_70 : decode cX8_sentHome 70 = .ok (.getfield 7, 3) := dd_all DX8_sentHome_40_ok 0 rfl
theorem dX8_sentHome_73 : decode cX8_sentHome 73 = .ok (.bipush 7, 2) := dd_all DX8_sentHome_40_ok 1 rfl
theorem dX8_sentHome_75 : decode cX8_sentHome 75 = .ok (.iaload, 1) := dd_all DX8_sentHome_40_ok 2 rfl
theorem dX8_sentHome_76 : decode cX8_sentHome 76 = .ok (.ifCond .ne 22, 3) := dd_all DX8_sentHome_40_ok 3 rfl
theorem dX8_sentHome_79 : decode cX8_sentHome 79 = .ok (.aload_n 0, 1) := dd_all DX8_sentHome_40_ok 4 rfl
theorem dX8_sentHome_80 : decode cX8_sentHome 80 = .ok (.iload_n 3, 1) := dd_all DX8_sentHome_40_ok 5 rfl
theorem dX8_sentHome_81 : decode cX8_sentHome 81 = .ok (.iconst 4, 1) := dd_all DX8_sentHome_40_ok 6 rfl
theorem dX8_sentHome_82 : decode cX8_sentHome 82 = .ok (.invokevirtual 35, 3) := dd_all DX8_sentHome_40_ok 7 rfl
theorem dX8_sentHome_85 : decode cX8_sentHome 85 = .ok (.aload_n 0, 1) := dd_all DX8_sentHome_40_ok 8 rfl
theorem dX8_sentHome_86 : decode cX8_sentHome 86 = .ok (.iload_n 2, 1) := dd_all DX8_sentHome_40_ok 9 rfl
theorem dX8_sentHome_87 : decode cX8_sentHome 87 = .ok (.iconst 4, 1) := dd_all DX8_sentHome_40_ok 10 rfl
theorem dX8_sentHome_88 : decode cX8_sentHome 88 = .ok (.invokevirtual 35, 3) := dd_all DX8_sentHome_40_ok 11 rfl
theorem dX8_sentHome_91 : decode cX8_sentHome 91 = .ok (.if_icmp .ge 7, 3) := dd_all DX8_sentHome_40_ok 12 rfl
theorem dX8_sentHome_94 : decode cX8_sentHome 94 = .ok (.iconst 1, 1) := dd_all DX8_sentHome_40_ok 13 rfl
theorem dX8_sentHome_95 : decode cX8_sentHome 95 = .ok (.goto 4, 3) := dd_all DX8_sentHome_40_ok 14 rfl
theorem dX8_sentHome_98 : decode cX8_sentHome 98 = .ok (.iconst 0, 1) := dd_all DX8_sentHome_40_ok 15 rfl
theorem dX8_sentHome_99 : decode cX8_sentHome 99 = .ok (.istore 4, 2) := dd_all DX8_sentHome_40_ok 16 rfl
theorem dX8_sentHome_101 : decode cX8_sentHome 101 = .ok (.iload_n 2, 1) := dd_all DX8_sentHome_40_ok 17 rfl
theorem dX8_sentHome_102 : decode cX8_sentHome 102 = .ok (.ifCond .lt 33, 3) := dd_all DX8_sentHome_40_ok 18 rfl
theorem dX8_sentHome_105 : decode cX8_sentHome 105 = .ok (.aload_n 0, 1) := dd_all DX8_sentHome_40_ok 19 rfl
theorem dX8_sentHome_106 : decode cX8_sentHome 106 = .ok (.getfield 7, 3) := dd_all DX8_sentHome_40_ok 20 rfl
theorem dX8_sentHome_109 : decode cX8_sentHome 109 = .ok (.bipush 7, 2) := dd_all DX8_sentHome_40_ok 21 rfl
theorem dX8_sentHome_111 : decode cX8_sentHome 111 = .ok (.iaload, 1) := dd_all DX8_sentHome_40_ok 22 rfl
theorem dX8_sentHome_112 : decode cX8_sentHome 112 = .ok (.iconst 1, 1) := dd_all DX8_sentHome_40_ok 23 rfl
theorem dX8_sentHome_113 : decode cX8_sentHome 113 = .ok (.if_icmp .eq 18, 3) := dd_all DX8_sentHome_40_ok 24 rfl
theorem dX8_sentHome_116 : decode cX8_sentHome 116 = .ok (.aload_n 0, 1) := dd_all DX8_sentHome_40_ok 25 rfl
theorem dX8_sentHome_117 : decode cX8_sentHome 117 = .ok (.iload_n 3, 1) := dd_all DX8_sentHome_40_ok 26 rfl
theorem dX8_sentHome_118 : decode cX8_sentHome 118 = .ok (.iconst 4, 1) := dd_all DX8_sentHome_40_ok 27 rfl
theorem dX8_sentHome_119 : decode cX8_sentHome 119 = .ok (.invokevirtual 35, 3) := dd_all DX8_sentHome_40_ok 28 rfl
theorem dX8_sentHome_122 : decode cX8_sentHome 122 = .ok (.aload_n 0, 1) := dd_all DX8_sentHome_40_ok 29 rfl
theorem dX8_sentHome_123 : decode cX8_sentHome 123 = .ok (.iload_n 2, 1) := dd_all DX8_sentHome_40_ok 30 rfl
theorem dX8_sentHome_124 : decode cX8_sentHome 124 = .ok (.iconst 4, 1) := dd_all DX8_sentHome_40_ok 31 rfl
theorem dX8_sentHome_125 : decode cX8_sentHome 125 = .ok (.invokevirtual 35, 3) := dd_all DX8_sentHome_40_ok 32 rfl
theorem dX8_sentHome_128 : decode cX8_sentHome 128 = .ok (.if_icmp .ne 7, 3) := dd_all DX8_sentHome_40_ok 33 rfl
theorem dX8_sentHome_131 : decode cX8_sentHome 131 = .ok (.iconst 1, 1) := dd_all DX8_sentHome_40_ok 34 rfl
theorem dX8_sentHome_132 : decode cX8_sentHome 132 = .ok (.goto 4, 3) := dd_all DX8_sentHome_40_ok 35 rfl
theorem dX8_sentHome_135 : decode cX8_sentHome 135 = .ok (.iconst 0, 1) := dd_all DX8_sentHome_40_ok 36 rfl
theorem dX8_sentHome_136 : decode cX8_sentHome 136 = .ok (.istore 5, 2) := dd_all DX8_sentHome_40_ok 37 rfl
theorem dX8_sentHome_138 : decode cX8_sentHome 138 = .ok (.iload 4, 2) := dd_all DX8_sentHome_40_ok 38 rfl
theorem dX8_sentHome_140 : decode cX8_sentHome 140 = .ok (.ifCond .ne 25, 3) := dd_all DX8_sentHome_40_ok 39 rfl
def DX8_sentHome_80 : List (Nat × Instr × Nat) := [(143, .iload 5, 2), (145, .ifCond .eq 24, 3), (148, .aload_n 0, 1), (149, .iload_n 3, 1), (150, .bipush 7, 2), (152, .invokevirtual 35, 3), (155, .aload_n 0, 1), (156, .iload_n 2, 1), (157, .bipush 7, 2), (159, .invokevirtual 35, 3), (162, .if_icmp .ge 7, 3), (165, .iload_n 3, 1), (166, .goto 4, 3), (169, .iload_n 2, 1), (170, .istore_n 2, 1), (171, .iinc 3 1, 3), (174, .goto (-155), 3), (177, .iload_n 2, 1), (178, .ireturn, 1)]
theorem DX8_sentHome_80_ok : ∀ q ∈ DX8_sentHome_80, decode cX8_sentHome q.1 = .ok (q.2.1, q.2.2) := by decide +kernel
theorem dX8_sentHome_143 : decode cX8_sentHome 143 = .ok (.iload 5, 2) := dd_all DX8_sentHome_80_ok 0 rfl
theorem dX8_sentHome_145 : decode cX8_sentHome 145 = .ok (.ifCond .eq 24, 3) := dd_all DX8_sentHome_80_ok 1 rfl
theorem dX8_sentHome_148 : decode cX8_sentHome 148 = .ok (.aload_n 0, 1) := dd_all DX8_sentHome_80_ok 2 rfl
theorem dX8_sentHome_149 : decode cX8_sentHome 149 = .ok (.iload_n 3, 1) := dd_all DX8_sentHome_80_ok 3 rfl
theorem dX8_sentHome_150 : decode cX8_sentHome 150 = .ok (.bipush 7, 2) := dd_all DX8_sentHome_80_ok 4 rfl
theorem dX8_sentHome_152 : decode cX8_sentHome 152 = .ok (.invokevirtual 35, 3) := dd_all DX8_sentHome_80_ok 5 rfl
theorem dX8_sentHome_155 : decode cX8_sentHome 155 = .ok (.aload_n 0, 1) := dd_all DX8_sentHome_80_ok 6 rfl
theorem dX8_sentHome_156 : decode cX8_sentHome 156 = .ok (.iload_n 2, 1) := dd_all DX8_sentHome_80_ok 7 rfl
theorem dX8_sentHome_157 : decode cX8_sentHome 157 = .ok (.bipush 7, 2) := dd_all DX8_sentHome_80_ok 8 rfl
theorem dX8_sentHome_159 : decode cX8_sentHome 159 = .ok (.invokevirtual 35, 3) := dd_all DX8_sentHome_80_ok 9 rfl
theorem dX8_sentHome_162 : decode cX8_sentHome 162 = .ok (.if_icmp .ge 7, 3) := dd_all DX8_sentHome_80_ok 10 rfl
theorem dX8_sentHome_165 : decode cX8_sentHome 165 = .ok (.iload_n 3, 1) := dd_all DX8_sentHome_80_ok 11 rfl
theorem dX8_sentHome_166 : decode cX8_sentHome 166 = .ok (.goto 4, 3) := dd_all DX8_sentHome_80_ok 12 rfl
theorem dX8_sentHome_169 : decode cX8_sentHome 169 = .ok (.iload_n 2, 1) := dd_all DX8_sentHome_80_ok 13 rfl
theorem dX8_sentHome_170 : decode cX8_sentHome 170 = .ok (.istore_n 2, 1) := dd_all DX8_sentHome_80_ok 14 rfl
theorem dX8_sentHome_171 : decode cX8_sentHome 171 = .ok (.iinc 3 1, 3) := dd_all DX8_sentHome_80_ok 15 rfl
theorem dX8_sentHome_174 : decode cX8_sentHome 174 = .ok (.goto (-155), 3) := dd_all DX8_sentHome_80_ok 16 rfl
theorem dX8_sentHome_177 : decode cX8_sentHome 177 = .ok (.iload_n 2, 1) := dd_all DX8_sentHome_80_ok 17 rfl
theorem dX8_sentHome_178 : decode cX8_sentHome 178 = .ok (.ireturn, 1) := dd_all DX8_sentHome_80_ok 18 rfl
def DX8_knock_0 : List (Nat × Instr × Nat) := [(0, .iload_n 1, 1), (1, .iconst 0, 1), (2, .iconst 3, 1), (3, .invokestatic 39, 3), (6, .ifCond .eq 23, 3), (9, .iload_n 2, 1), (10, .iconst 0, 1), (11, .bipush 127, 2), (13, .invokestatic 39, 3), (16, .ifCond .eq 13, 3), (19, .iload_n 3, 1), (20, .iconst 1, 1), (21, .bipush 127, 2), (23, .invokestatic 39, 3), (26, .ifCond .ne 5, 3), (29, .iconst (-1), 1), (30, .ireturn, 1), (31, .aload_n 0, 1), (32, .iload_n 1, 1), (33, .iload_n 2, 1), (34, .invokevirtual 58, 3), (37, .istore 4, 2), (39, .iload 4, 2), (41, .ifCond .lt 17, 3), (44, .aload_n 0, 1), (45, .invokevirtual 61, 3), (48, .aload_n 0, 1), (49, .iload 4, 2), (51, .iload_n 3, 1), (52, .invokevirtual 64, 3), (55, .iload 4, 2), (57, .ireturn, 1), (58, .aload_n 0, 1), (59, .invokevirtual 68, 3), (62, .aload_n 0, 1), (63, .getfield 7, 3), (66, .bipush 6, 2), (68, .iaload, 1), (69, .if_icmp .ge 7, 3), (72, .iconst 1, 1)]
theorem DX8_knock_0_ok : ∀ q ∈ DX8_knock_0, decode cX8_knock q.1 = .ok (q.2.1, q.2.2) := by decide +kernel
theorem dX8_knock_0 : decode cX8_knock 0 = .ok (.iload_n 1, 1) := dd_all DX8_knock_0_ok 0 rfl
theorem dX8_knock_1 : decode cX8_knock 1 = .ok (.iconst 0, 1) := dd_all DX8_knock_0_ok 1 rfl
theorem dX8_knock_2 : decode cX8_knock 2 = .ok (.iconst 3, 1) := dd_all DX8_knock_0_ok 2 rfl
theorem dX8_knock_3 : decode cX8_knock 3 = .ok (.invokestatic 39, 3) := dd_all DX8_knock_0_ok 3 rfl
theorem dX8_knock_6 : decode cX8_knock 6 = .ok (.ifCond .eq 23, 3) := dd_all DX8_knock_0_ok 4 rfl
theorem dX8_knock_9 : decode cX8_knock 9 = .ok (.iload_n 2, 1) := dd_all DX8_knock_0_ok 5 rfl
theorem dX8_knock_10 : decode cX8_knock 10 = .ok (.iconst 0, 1) := dd_all DX8_knock_0_ok 6 rfl
theorem dX8_knock_11 : decode cX8_knock 11 = .ok (.bipush 127, 2) := dd_all DX8_knock_0_ok 7 rfl
theorem dX8_knock_13 : decode cX8_knock 13 = .ok (.invokestatic 39, 3) := dd_all DX8_knock_0_ok 8 rfl
theorem dX8_knock_16 : decode cX8_knock 16 = .ok (.ifCond .eq 13, 3) := dd_all DX8_knock_0_ok 9 rfl
theorem dX8_knock_19 : decode cX8_knock 19 = .ok (.iload_n 3, 1) := dd_all DX8_knock_0_ok 10 rfl
theorem dX8_knock_20 : decode cX8_knock 20 = .ok (.iconst 1, 1) := dd_all DX8_knock_0_ok 11 rfl
theorem dX8_knock_21 : decode cX8_knock 21 = .ok (.bipush 127, 2) := dd_all DX8_knock_0_ok 12 rfl
theorem dX8_knock_23 : decode cX8_knock 23 = .ok (.invokestatic 39, 3) := dd_all DX8_knock_0_ok 13 rfl
theorem dX8_knock_26 : decode cX8_knock 26 = .ok (.ifCond .ne 5, 3) := dd_all DX8_knock_0_ok 14 rfl
theorem dX8_knock_29 : decode cX8_knock 29 = .ok (.iconst (-1), 1) := dd_all DX8_knock_0_ok 15 rfl
theorem dX8_knock_30 : decode cX8_knock 30 = .ok (.ireturn, 1) := dd_all DX8_knock_0_ok 16 rfl
theorem dX8_knock_31 : decode cX8_knock 31 = .ok (.aload_n 0, 1) := dd_all DX8_knock_0_ok 17 rfl
theorem dX8_knock_32 : decode cX8_knock 32 = .ok (.iload_n 1, 1) := dd_all DX8_knock_0_ok 18 rfl
theorem dX8_knock_33 : decode cX8_knock 33 = .ok (.iload_n 2, 1) := dd_all DX8_knock_0_ok 19 rfl
theorem dX8_knock_34 : decode cX8_knock 34 = .ok (.invokevirtual 58, 3) := dd_all DX8_knock_0_ok 20 rfl
theorem dX8_knock_37 : decode cX8_knock 37 = .ok (.istore 4, 2) := dd_all DX8_knock_0_ok 21 rfl
theorem dX8_knock_39 : decode cX8_knock 39 = .ok (.iload 4, 2) := dd_all DX8_knock_0_ok 22 rfl
theorem dX8_knock_41 : decode cX8_knock 41 = .ok (.ifCond .lt 17, 3) := dd_all DX8_knock_0_ok 23 rfl
theorem dX8_knock_44 : decode cX8_knock 44 = .ok (.aload_n 0, 1) := dd_all DX8_knock_0_ok 24 rfl
theorem dX8_knock_45 : decode cX8_knock 45 = .ok (.invokevirtual 61, 3) := dd_all DX8_knock_0_ok 25 rfl
theorem dX8_knock_48 : decode cX8_knock 48 = .ok (.aload_n 0, 1) := dd_all DX8_knock_0_ok 26 rfl
theorem dX8_knock_49 : decode cX8_knock 49 = .ok (.iload 4, 2) := dd_all DX8_knock_0_ok 27 rfl
theorem dX8_knock_51 : decode cX8_knock 51 = .ok (.iload_n 3, 1) := dd_all DX8_knock_0_ok 28 rfl
theorem dX8_knock_52 : decode cX8_knock 52 = .ok (.invokevirtual 64, 3) := dd_all DX8_knock_0_ok 29 rfl
theorem dX8_knock_55 : decode cX8_knock 55 = .ok (.iload 4, 2) := dd_all DX8_knock_0_ok 30 rfl
theorem dX8_knock_57 : decode cX8_knock 57 = .ok (.ireturn, 1) := dd_all DX8_knock_0_ok 31 rfl
theorem dX8_knock_58 : decode cX8_knock 58 = .ok (.aload_n 0, 1) := dd_all DX8_knock_0_ok 32 rfl
theorem dX8_knock_59 : decode cX8_knock 59 = .ok (.invokevirtual 68, 3) := dd_all DX8_knock_0_ok 33 rfl
theorem dX8_knock_62 : decode cX8_knock 62 = .ok (.aload_n 0, 1) := dd_all DX8_knock_0_ok 34 rfl
theorem dX8_knock_63 : decode cX8_knock 63 = .ok (.getfield 7, 3) := dd_all DX8_knock_0_ok 35 rfl
theorem dX8_knock_66 : decode cX8_knock 66 = .ok (.bipush 6, 2) := dd_all DX8_knock_0_ok 36 rfl
theorem dX8_knock_68 : decode cX8_knock 68 = .ok (.iaload, 1) := dd_all DX8_knock_0_ok 37 rfl
theorem dX8_knock_69 : decode cX8_knock 69 = .ok (.if_icmp .ge 7, 3) := dd_all DX8_knock_0_ok 38 rfl
theorem dX8_knock_72 : decode cX8_knock 72 = .ok (.iconst 1, 1) := dd_all DX8_knock_0_ok 39 rfl
def DX8_knock_40 : List (Nat × Instr × Nat) := [(73, .goto 4, 3), (76, .iconst 0, 1), (77, .istore 5, 2), (79, .iload 5, 2), (81, .ifCond .ne 12, 3), (84, .aload_n 0, 1), (85, .iconst 5, 1), (86, .invokevirtual 55, 3), (89, .iconst 4, 1), (90, .if_icmp .ne 8, 3), (93, .bipush (-4), 2), (95, .goto 7, 3), (98, .aload_n 0, 1), (99, .invokevirtual 72, 3), (102, .istore 6, 2), (104, .iload 5, 2), (106, .ifCond .ne 12, 3), (109, .iload 6, 2), (111, .ifCond .ge 7, 3), (114, .iconst 1, 1), (115, .goto 4, 3), (118, .iconst 0, 1), (119, .istore 7, 2), (121, .aload_n 0, 1), (122, .getfield 7, 3), (125, .iconst 0, 1), (126, .iaload, 1), (127, .sipush 200, 3), (130, .if_icmp .eq 18, 3), (133, .iload 7, 2), (135, .ifCond .eq 16, 3), (138, .aload_n 0, 1), (139, .iconst 0, 1), (140, .invokevirtual 55, 3), (143, .bipush 6, 2), (145, .if_icmp .ne 6, 3), (148, .bipush (-3), 2), (150, .ireturn, 1), (151, .aload_n 0, 1), (152, .invokevirtual 61, 3)]
theorem DX8_knock_40_ok : ∀ q ∈ DX8_knock_40, decode cX8_knock q.1 = .ok (q.2.1, q.2.2) := by decide +kernel
theorem dX8_knock_73 : decode cX8_knock 73 = .ok (.goto 4, 3) := dd_all DX8_knock_40_ok 0 rfl
theorem dX8_knock_76 : decode cX8_knock 76 = .ok (.iconst 0, 1) := dd_all DX8_knock_40_ok 1 rfl
theorem dX8_knock_77 : decode cX8_knock 77 = .ok (.istore 5, 2) := dd_all DX8_knock_40_ok 2 rfl
theorem dX8_knock_79 : decode cX8_knock 79 = .ok (.iload 5, 2) := dd_all DX8_knock_40_ok 3 rfl
theorem dX8_knock_81 : decode cX8_knock 81 = .ok (.ifCond .ne 12, 3) := dd_all DX8_knock_40_ok 4 rfl
theorem dX8_knock_84 : decode cX8_knock 84 = .ok (.aload_n 0, 1) := dd_all DX8_knock_40_ok 5 rfl
theorem dX8_knock_85 : decode cX8_knock 85 = .ok (.iconst 5, 1) := dd_all DX8_knock_40_ok 6 rfl
theorem dX8_knock_86 : decode cX8_knock 86 = .ok (.invokevirtual 55, 3) := dd_all DX8_knock_40_ok 7 rfl
theorem dX8_knock_89 : decode cX8_knock 89 = .ok (.iconst 4, 1) := dd_all DX8_knock_40_ok 8 rfl
theorem dX8_knock_90 : decode cX8_knock 90 = .ok (.if_icmp .ne 8, 3) := dd_all DX8_knock_40_ok 9 rfl
theorem dX8_knock_93 : decode cX8_knock 93 = .ok (.bipush (-4), 2) := dd_all DX8_knock_40_ok 10 rfl
theorem dX8_knock_95 : decode cX8_knock 95 = .ok (.goto 7, 3) := dd_all DX8_knock_40_ok 11 rfl
theorem dX8_knock_98 : decode cX8_knock 98 = .ok (.aload_n 0, 1) := dd_all DX8_knock_40_ok 12 rfl
theorem dX8_knock_99 : decode cX8_knock 99 = .ok (.invokevirtual 72, 3) := dd_all DX8_knock_40_ok 13 rfl
theorem dX8_knock_102 : decode cX8_knock 102 = .ok (.istore 6, 2) := dd_all DX8_knock_40_ok 14 rfl
theorem dX8_knock_104 : decode cX8_knock 104 = .ok (.iload 5, 2) := dd_all DX8_knock_40_ok 15 rfl
theorem dX8_knock_106 : decode cX8_knock 106 = .ok (.ifCond .ne 12, 3) := dd_all DX8_knock_40_ok 16 rfl
theorem dX8_knock_109 : decode cX8_knock 109 = .ok (.iload 6, 2) := dd_all DX8_knock_40_ok 17 rfl
theorem dX8_knock_111 : decode cX8_knock 111 = .ok (.ifCond .ge 7, 3) := dd_all DX8_knock_40_ok 18 rfl
theorem dX8_knock_114 : decode cX8_knock 114 = .ok (.iconst 1, 1) := dd_all DX8_knock_40_ok 19 rfl
theorem dX8_knock_115 : decode cX8_knock 115 = .ok (.goto 4, 3) := dd_all DX8_knock_40_ok 20 rfl
theorem dX8_knock_118 : decode cX8_knock 118 = .ok (.iconst 0, 1) := dd_all DX8_knock_40_ok 21 rfl
theorem dX8_knock_119 : decode cX8_knock 119 = .ok (.istore 7, 2) := dd_all DX8_knock_40_ok 22 rfl
theorem dX8_knock_121 : decode cX8_knock 121 = .ok (.aload_n 0, 1) := dd_all DX8_knock_40_ok 23 rfl
theorem dX8_knock_122 : decode cX8_knock 122 = .ok (.getfield 7, 3) := dd_all DX8_knock_40_ok 24 rfl
theorem dX8_knock_125 : decode cX8_knock 125 = .ok (.iconst 0, 1) := dd_all DX8_knock_40_ok 25 rfl
theorem dX8_knock_126 : decode cX8_knock 126 = .ok (.iaload, 1) := dd_all DX8_knock_40_ok 26 rfl
theorem dX8_knock_127 : decode cX8_knock 127 = .ok (.sipush 200, 3) := dd_all DX8_knock_40_ok 27 rfl
theorem dX8_knock_130 : decode cX8_knock 130 = .ok (.if_icmp .eq 18, 3) := dd_all DX8_knock_40_ok 28 rfl
theorem dX8_knock_133 : decode cX8_knock 133 = .ok (.iload 7, 2) := dd_all DX8_knock_40_ok 29 rfl
theorem dX8_knock_135 : decode cX8_knock 135 = .ok (.ifCond .eq 16, 3) := dd_all DX8_knock_40_ok 30 rfl
theorem dX8_knock_138 : decode cX8_knock 138 = .ok (.aload_n 0, 1) := dd_all DX8_knock_40_ok 31 rfl
theorem dX8_knock_139 : decode cX8_knock 139 = .ok (.iconst 0, 1) := dd_all DX8_knock_40_ok 32 rfl
theorem dX8_knock_140 : decode cX8_knock 140 = .ok (.invokevirtual 55, 3) := dd_all DX8_knock_40_ok 33 rfl
theorem dX8_knock_143 : decode cX8_knock 143 = .ok (.bipush 6, 2) := dd_all DX8_knock_40_ok 34 rfl
theorem dX8_knock_145 : decode cX8_knock 145 = .ok (.if_icmp .ne 6, 3) := dd_all DX8_knock_40_ok 35 rfl
theorem dX8_knock_148 : decode cX8_knock 148 = .ok (.bipush (-3), 2) := dd_all DX8_knock_40_ok 36 rfl
theorem dX8_knock_150 : decode cX8_knock 150 = .ok (.ireturn, 1) := dd_all DX8_knock_40_ok 37 rfl
theorem dX8_knock_151 : decode cX8_knock 151 = .ok (.aload_n 0, 1) := dd_all DX8_knock_40_ok 38 rfl
theorem dX8_knock_152 : decode cX8_knock 152 = .ok (.invokevirtual 61, 3) := dd_all DX8_knock_40_ok 39 rfl
def DX8_knock_80 : List (Nat × Instr × Nat) := [(155, .aload_n 0, 1), (156, .getfield 7, 3), (159, .iconst 0, 1), (160, .iaload, 1), (161, .istore 8, 2), (163, .aload_n 0, 1), (164, .iload 8, 2), (166, .iconst 0, 1), (167, .iload_n 1, 1), (168, .invokevirtual 51, 3), (171, .aload_n 0, 1), (172, .iload 8, 2), (174, .iconst 1, 1), (175, .iload_n 2, 1), (176, .invokevirtual 51, 3), (179, .aload_n 0, 1), (180, .iload 8, 2), (182, .iconst 2, 1), (183, .iload_n 3, 1), (184, .invokevirtual 51, 3), (187, .aload_n 0, 1), (188, .iload 8, 2), (190, .iconst 3, 1), (191, .iconst 0, 1), (192, .invokevirtual 51, 3), (195, .aload_n 0, 1), (196, .iload 8, 2), (198, .iconst 4, 1), (199, .iconst 0, 1), (200, .invokevirtual 51, 3), (203, .aload_n 0, 1), (204, .iload 8, 2), (206, .bipush 6, 2), (208, .iconst 0, 1), (209, .invokevirtual 51, 3), (212, .aload_n 0, 1), (213, .getfield 7, 3), (216, .iconst 0, 1), (217, .dup2, 1), (218, .iaload, 1)]
theorem DX8_knock_80_ok : ∀ q ∈ DX8_knock_80, decode cX8_knock q.1 = .ok (q.2.1, q.2.2) := by decide +kernel
theorem dX8_knock_155 : decode cX8_knock 155 = .ok (.aload_n 0, 1) := dd_all DX8_knock_80_ok 0 rfl
theorem dX8_knock_156 : decode cX8_knock 156 = .ok (.getfield 7, 3) := dd_all DX8_knock_80_ok 1 rfl
theorem dX8_knock_159 : decode cX8_knock 159 = .ok (.iconst 0, 1) := dd_all DX8_knock_80_ok 2 rfl
theorem dX8_knock_160 : decode cX8_knock 160 = .ok (.iaload, 1) := dd_all DX8_knock_80_ok 3 rfl
theorem dX8_knock_161 : decode cX8_knock 161 = .ok (.istore 8, 2) := dd_all DX8_knock_80_ok 4 rfl
theorem dX8_knock_163 : decode cX8_knock 163 = .ok (.aload_n 0, 1) := dd_all DX8_knock_80_ok 5 rfl
theorem dX8_knock_164 : decode cX8_knock 164 = .ok (.iload 8, 2) := dd_all DX8_knock_80_ok 6 rfl
theorem dX8_knock_166 : decode cX8_knock 166 = .ok (.iconst 0, 1) := dd_all DX8_knock_80_ok 7 rfl
theorem dX8_knock_167 : decode cX8_knock 167 = .ok (.iload_n 1, 1) := dd_all DX8_knock_80_ok 8 rfl
theorem dX8_knock_168 : decode cX8_knock 168 = .ok (.invokevirtual 51, 3) := dd_all DX8_knock_80_ok 9 rfl
theorem dX8_knock_171 : decode cX8_knock 171 = .ok (.aload_n 0, 1) := dd_all DX8_knock_80_ok 10 rfl
theorem dX8_knock_172 : decode cX8_knock 172 = .ok (.iload 8, 2) := dd_all DX8_knock_80_ok 11 rfl
theorem dX8_knock_174 : decode cX8_knock 174 = .ok (.iconst 1, 1) := dd_all DX8_knock_80_ok 12 rfl
theorem dX8_knock_175 : decode cX8_knock 175 = .ok (.iload_n 2, 1) := dd_all DX8_knock_80_ok 13 rfl
theorem dX8_knock_176 : decode cX8_knock 176 = .ok (.invokevirtual 51, 3) := dd_all DX8_knock_80_ok 14 rfl
theorem dX8_knock_179 : decode cX8_knock 179 = .ok (.aload_n 0, 1) := dd_all DX8_knock_80_ok 15 rfl
theorem dX8_knock_180 : decode cX8_knock 180 = .ok (.iload 8, 2) := dd_all DX8_knock_80_ok 16 rfl
theorem dX8_knock_182 : decode cX8_knock 182 = .ok (.iconst 2, 1) := dd_all DX8_knock_80_ok 17 rfl
theorem dX8_knock_183 : decode cX8_knock 183 = .ok (.iload_n 3, 1) := dd_all DX8_knock_80_ok 18 rfl
theorem dX8_knock_184 : decode cX8_knock 184 = .ok (.invokevirtual 51, 3) := dd_all DX8_knock_80_ok 19 rfl
theorem dX8_knock_187 : decode cX8_knock 187 = .ok (.aload_n 0, 1) := dd_all DX8_knock_80_ok 20 rfl
theorem dX8_knock_188 : decode cX8_knock 188 = .ok (.iload 8, 2) := dd_all DX8_knock_80_ok 21 rfl
theorem dX8_knock_190 : decode cX8_knock 190 = .ok (.iconst 3, 1) := dd_all DX8_knock_80_ok 22 rfl
theorem dX8_knock_191 : decode cX8_knock 191 = .ok (.iconst 0, 1) := dd_all DX8_knock_80_ok 23 rfl
theorem dX8_knock_192 : decode cX8_knock 192 = .ok (.invokevirtual 51, 3) := dd_all DX8_knock_80_ok 24 rfl
theorem dX8_knock_195 : decode cX8_knock 195 = .ok (.aload_n 0, 1) := dd_all DX8_knock_80_ok 25 rfl
theorem dX8_knock_196 : decode cX8_knock 196 = .ok (.iload 8, 2) := dd_all DX8_knock_80_ok 26 rfl
theorem dX8_knock_198 : decode cX8_knock 198 = .ok (.iconst 4, 1) := dd_all DX8_knock_80_ok 27 rfl
theorem dX8_knock_199 : decode cX8_knock 199 = .ok (.iconst 0, 1) := dd_all DX8_knock_80_ok 28 rfl
theorem dX8_knock_200 : decode cX8_knock 200 = .ok (.invokevirtual 51, 3) := dd_all DX8_knock_80_ok 29 rfl
theorem dX8_knock_203 : decode cX8_knock 203 = .ok (.aload_n 0, 1) := dd_all DX8_knock_80_ok 30 rfl
theorem dX8_knock_204 : decode cX8_knock 204 = .ok (.iload 8, 2) := dd_all DX8_knock_80_ok 31 rfl
theorem dX8_knock_206 : decode cX8_knock 206 = .ok (.bipush 6, 2) := dd_all DX8_knock_80_ok 32 rfl
theorem dX8_knock_208 : decode cX8_knock 208 = .ok (.iconst 0, 1) := dd_all DX8_knock_80_ok 33 rfl
theorem dX8_knock_209 : decode cX8_knock 209 = .ok (.invokevirtual 51, 3) := dd_all DX8_knock_80_ok 34 rfl
theorem dX8_knock_212 : decode cX8_knock 212 = .ok (.aload_n 0, 1) := dd_all DX8_knock_80_ok 35 rfl
theorem dX8_knock_213 : decode cX8_knock 213 = .ok (.getfield 7, 3) := dd_all DX8_knock_80_ok 36 rfl
theorem dX8_knock_216 : decode cX8_knock 216 = .ok (.iconst 0, 1) := dd_all DX8_knock_80_ok 37 rfl
theorem dX8_knock_217 : decode cX8_knock 217 = .ok (.dup2, 1) := dd_all DX8_knock_80_ok 38 rfl
theorem dX8_knock_218 : decode cX8_knock 218 = .ok (.iaload, 1) := dd_all DX8_knock_80_ok 39 rfl
def DX8_knock_120 : List (Nat × Instr × Nat) := [(219, .iconst 1, 1), (220, .iadd, 1), (221, .iastore, 1), (222, .iload 6, 2), (224, .ifCond .lt 44, 3), (227, .aload_n 0, 1), (228, .iload 6, 2), (230, .iconst 3, 1), (231, .iconst 5, 1), (232, .invokevirtual 51, 3), (235, .aload_n 0, 1), (236, .iload 6, 2), (238, .iconst 5, 1), (239, .aload_n 0, 1), (240, .iload 6, 2), (242, .iconst 4, 1), (243, .invokevirtual 35, 3), (246, .invokevirtual 51, 3), (249, .aload_n 0, 1), (250, .iload 6, 2), (252, .bipush 6, 2), (254, .iconst 0, 1), (255, .invokevirtual 51, 3), (258, .aload_n 0, 1), (259, .getfield 7, 3), (262, .iconst 3, 1), (263, .dup2, 1), (264, .iaload, 1), (265, .iconst 1, 1), (266, .iadd, 1), (267, .iastore, 1), (268, .iload 7, 2), (270, .ifCond .ne 9, 3), (273, .aload_n 0, 1), (274, .iload 8, 2), (276, .invokevirtual 75, 3), (279, .iload 8, 2), (281, .ireturn, 1)]
theorem DX8_knock_120_ok : ∀ q ∈ DX8_knock_120, decode cX8_knock q.1 = .ok (q.2.1, q.2.2) := by decide +kernel
theorem dX8_knock_219 : decode cX8_knock 219 = .ok (.iconst 1, 1) := dd_all DX8_knock_120_ok 0 rfl
theorem dX8_knock_220 : decode cX8_knock 220 = .ok (.iadd, 1) := dd_all DX8_knock_120_ok 1 rfl
theorem dX8_knock_221 : decode cX8_knock 221 = .ok (.iastore, 1) := dd_all DX8_knock_120_ok 2 rfl
theorem dX8_knock_222 : decode cX8_knock 222 = .ok (.iload 6, 2) := dd_all DX8_knock_120_ok 3 rfl
theorem dX8_knock_224 : decode cX8_knock 224 = .ok (.ifCond .lt 44, 3) := dd_all DX8_knock_120_ok 4 rfl
theorem dX8_knock_227 : decode cX8_knock 227 = .ok (.aload_n 0, 1) := dd_all DX8_knock_120_ok 5 rfl
theorem dX8_knock_228 : decode cX8_knock 228 = .ok (.iload 6, 2) := dd_all DX8_knock_120_ok 6 rfl
theorem dX8_knock_230 : decode cX8_knock 230 = .ok (.iconst 3, 1) := dd_all DX8_knock_120_ok 7 rfl
theorem dX8_knock_231 : decode cX8_knock 231 = .ok (.iconst 5, 1) := dd_all DX8_knock_120_ok 8 rfl
theorem dX8_knock_232 : decode cX8_knock 232 = .ok (.invokevirtual 51, 3) := dd_all DX8_knock_120_ok 9 rfl
theorem dX8_knock_235 : decode cX8_knock 235 = .ok (.aload_n 0, 1) := dd_all DX8_knock_120_ok 10 rfl
theorem dX8_knock_236 : decode cX8_knock 236 = .ok (.iload 6, 2) := dd_all DX8_knock_120_ok 11 rfl
theorem dX8_knock_238 : decode cX8_knock 238 = .ok (.iconst 5, 1) := dd_all DX8_knock_120_ok 12 rfl
theorem dX8_knock_239 : decode cX8_knock 239 = .ok (.aload_n 0, 1) := dd_all DX8_knock_120_ok 13 rfl
theorem dX8_knock_240 : decode cX8_knock 240 = .ok (.iload 6, 2) := dd_all DX8_knock_120_ok 14 rfl
theorem dX8_knock_242 : decode cX8_knock 242 = .ok (.iconst 4, 1) := dd_all DX8_knock_120_ok 15 rfl
theorem dX8_knock_243 : decode cX8_knock 243 = .ok (.invokevirtual 35, 3) := dd_all DX8_knock_120_ok 16 rfl
theorem dX8_knock_246 : decode cX8_knock 246 = .ok (.invokevirtual 51, 3) := dd_all DX8_knock_120_ok 17 rfl
theorem dX8_knock_249 : decode cX8_knock 249 = .ok (.aload_n 0, 1) := dd_all DX8_knock_120_ok 18 rfl
theorem dX8_knock_250 : decode cX8_knock 250 = .ok (.iload 6, 2) := dd_all DX8_knock_120_ok 19 rfl
theorem dX8_knock_252 : decode cX8_knock 252 = .ok (.bipush 6, 2) := dd_all DX8_knock_120_ok 20 rfl
theorem dX8_knock_254 : decode cX8_knock 254 = .ok (.iconst 0, 1) := dd_all DX8_knock_120_ok 21 rfl
theorem dX8_knock_255 : decode cX8_knock 255 = .ok (.invokevirtual 51, 3) := dd_all DX8_knock_120_ok 22 rfl
theorem dX8_knock_258 : decode cX8_knock 258 = .ok (.aload_n 0, 1) := dd_all DX8_knock_120_ok 23 rfl
theorem dX8_knock_259 : decode cX8_knock 259 = .ok (.getfield 7, 3) := dd_all DX8_knock_120_ok 24 rfl
theorem dX8_knock_262 : decode cX8_knock 262 = .ok (.iconst 3, 1) := dd_all DX8_knock_120_ok 25 rfl
theorem dX8_knock_263 : decode cX8_knock 263 = .ok (.dup2, 1) := dd_all DX8_knock_120_ok 26 rfl
theorem dX8_knock_264 : decode cX8_knock 264 = .ok (.iaload, 1) := dd_all DX8_knock_120_ok 27 rfl
theorem dX8_knock_265 : decode cX8_knock 265 = .ok (.iconst 1, 1) := dd_all DX8_knock_120_ok 28 rfl
theorem dX8_knock_266 : decode cX8_knock 266 = .ok (.iadd, 1) := dd_all DX8_knock_120_ok 29 rfl
theorem dX8_knock_267 : decode cX8_knock 267 = .ok (.iastore, 1) := dd_all DX8_knock_120_ok 30 rfl
theorem dX8_knock_268 : decode cX8_knock 268 = .ok (.iload 7, 2) := dd_all DX8_knock_120_ok 31 rfl
theorem dX8_knock_270 : decode cX8_knock 270 = .ok (.ifCond .ne 9, 3) := dd_all DX8_knock_120_ok 32 rfl
theorem dX8_knock_273 : decode cX8_knock 273 = .ok (.aload_n 0, 1) := dd_all DX8_knock_120_ok 33 rfl
theorem dX8_knock_274 : decode cX8_knock 274 = .ok (.iload 8, 2) := dd_all DX8_knock_120_ok 34 rfl
theorem dX8_knock_276 : decode cX8_knock 276 = .ok (.invokevirtual 75, 3) := dd_all DX8_knock_120_ok 35 rfl
theorem dX8_knock_279 : decode cX8_knock 279 = .ok (.iload 8, 2) := dd_all DX8_knock_120_ok 36 rfl
theorem dX8_knock_281 : decode cX8_knock 281 = .ok (.ireturn, 1) := dd_all DX8_knock_120_ok 37 rfl
def DX8_fades_0 : List (Nat × Instr × Nat) := [(0, .aload_n 0, 1), (1, .iload_n 1, 1), (2, .iconst 3, 1), (3, .iconst 4, 1), (4, .invokevirtual 51, 3), (7, .aload_n 0, 1), (8, .iload_n 1, 1), (9, .iconst 5, 1), (10, .aload_n 0, 1), (11, .iload_n 1, 1), (12, .iconst 4, 1), (13, .invokevirtual 35, 3), (16, .invokevirtual 51, 3), (19, .aload_n 0, 1), (20, .iload_n 1, 1), (21, .bipush 6, 2), (23, .iconst 0, 1), (24, .invokevirtual 51, 3), (27, .return_, 1)]
theorem DX8_fades_0_ok : ∀ q ∈ DX8_fades_0, decode cX8_fades q.1 = .ok (q.2.1, q.2.2) := by decide +kernel
theorem dX8_fades_0 : decode cX8_fades 0 = .ok (.aload_n 0, 1) := dd_all DX8_fades_0_ok 0 rfl
theorem dX8_fades_1 : decode cX8_fades 1 = .ok (.iload_n 1, 1) := dd_all DX8_fades_0_ok 1 rfl
theorem dX8_fades_2 : decode cX8_fades 2 = .ok (.iconst 3, 1) := dd_all DX8_fades_0_ok 2 rfl
theorem dX8_fades_3 : decode cX8_fades 3 = .ok (.iconst 4, 1) := dd_all DX8_fades_0_ok 3 rfl
theorem dX8_fades_4 : decode cX8_fades 4 = .ok (.invokevirtual 51, 3) := dd_all DX8_fades_0_ok 4 rfl
theorem dX8_fades_7 : decode cX8_fades 7 = .ok (.aload_n 0, 1) := dd_all DX8_fades_0_ok 5 rfl
theorem dX8_fades_8 : decode cX8_fades 8 = .ok (.iload_n 1, 1) := dd_all DX8_fades_0_ok 6 rfl
theorem dX8_fades_9 : decode cX8_fades 9 = .ok (.iconst 5, 1) := dd_all DX8_fades_0_ok 7 rfl
theorem dX8_fades_10 : decode cX8_fades 10 = .ok (.aload_n 0, 1) := dd_all DX8_fades_0_ok 8 rfl
theorem dX8_fades_11 : decode cX8_fades 11 = .ok (.iload_n 1, 1) := dd_all DX8_fades_0_ok 9 rfl
theorem dX8_fades_12 : decode cX8_fades 12 = .ok (.iconst 4, 1) := dd_all DX8_fades_0_ok 10 rfl
theorem dX8_fades_13 : decode cX8_fades 13 = .ok (.invokevirtual 35, 3) := dd_all DX8_fades_0_ok 11 rfl
theorem dX8_fades_16 : decode cX8_fades 16 = .ok (.invokevirtual 51, 3) := dd_all DX8_fades_0_ok 12 rfl
theorem dX8_fades_19 : decode cX8_fades 19 = .ok (.aload_n 0, 1) := dd_all DX8_fades_0_ok 13 rfl
theorem dX8_fades_20 : decode cX8_fades 20 = .ok (.iload_n 1, 1) := dd_all DX8_fades_0_ok 14 rfl
theorem dX8_fades_21 : decode cX8_fades 21 = .ok (.bipush 6, 2) := dd_all DX8_fades_0_ok 15 rfl
theorem dX8_fades_23 : decode cX8_fades 23 = .ok (.iconst 0, 1) := dd_all DX8_fades_0_ok 16 rfl
theorem dX8_fades_24 : decode cX8_fades 24 = .ok (.invokevirtual 51, 3) := dd_all DX8_fades_0_ok 17 rfl
theorem dX8_fades_27 : decode cX8_fades 27 = .ok (.return_, 1) := dd_all DX8_fades_0_ok 18 rfl
def DX8_release_0 : List (Nat × Instr × Nat) := [(0, .iload_n 1, 1), (1, .iconst 0, 1), (2, .iconst 3, 1), (3, .invokestatic 39, 3), (6, .ifCond .eq 13, 3), (9, .iload_n 2, 1), (10, .iconst 0, 1), (11, .bipush 127, 2), (13, .invokestatic 39, 3), (16, .ifCond .ne 5, 3), (19, .iconst (-1), 1), (20, .ireturn, 1), (21, .aload_n 0, 1), (22, .iload_n 1, 1), (23, .iload_n 2, 1), (24, .invokevirtual 58, 3), (27, .istore_n 3, 1), (28, .iload_n 3, 1), (29, .ifCond .lt 55, 3), (32, .aload_n 0, 1), (33, .iload_n 3, 1), (34, .iconst 3, 1), (35, .invokevirtual 35, 3), (38, .iconst 4, 1), (39, .if_icmp .eq 45, 3), (42, .aload_n 0, 1), (43, .iload_n 3, 1), (44, .bipush 6, 2), (46, .invokevirtual 35, 3), (49, .ifCond .ne 35, 3), (52, .aload_n 0, 1), (53, .invokevirtual 61, 3), (56, .aload_n 0, 1), (57, .getfield 7, 3), (60, .iconst 2, 1), (61, .iaload, 1), (62, .iconst 1, 1), (63, .if_icmp .ne 14, 3), (66, .aload_n 0, 1), (67, .iload_n 3, 1)]
theorem DX8_release_0_ok : ∀ q ∈ DX8_release_0, decode cX8_release q.1 = .ok (q.2.1, q.2.2) := by decide +kernel
theorem dX8_release_0 : decode cX8_release 0 = .ok (.iload_n 1, 1) := dd_all DX8_release_0_ok 0 rfl
theorem dX8_release_1 : decode cX8_release 1 = .ok (.iconst 0, 1) := dd_all DX8_release_0_ok 1 rfl
theorem dX8_release_2 : decode cX8_release 2 = .ok (.iconst 3, 1) := dd_all DX8_release_0_ok 2 rfl
theorem dX8_release_3 : decode cX8_release 3 = .ok (.invokestatic 39, 3) := dd_all DX8_release_0_ok 3 rfl
theorem dX8_release_6 : decode cX8_release 6 = .ok (.ifCond .eq 13, 3) := dd_all DX8_release_0_ok 4 rfl
theorem dX8_release_9 : decode cX8_release 9 = .ok (.iload_n 2, 1) := dd_all DX8_release_0_ok 5 rfl
theorem dX8_release_10 : decode cX8_release 10 = .ok (.iconst 0, 1) := dd_all DX8_release_0_ok 6 rfl
theorem dX8_release_11 : decode cX8_release 11 = .ok (.bipush 127, 2) := dd_all DX8_release_0_ok 7 rfl
theorem dX8_release_13 : decode cX8_release 13 = .ok (.invokestatic 39, 3) := dd_all DX8_release_0_ok 8 rfl
theorem dX8_release_16 : decode cX8_release 16 = .ok (.ifCond .ne 5, 3) := dd_all DX8_release_0_ok 9 rfl
theorem dX8_release_19 : decode cX8_release 19 = .ok (.iconst (-1), 1) := dd_all DX8_release_0_ok 10 rfl
theorem dX8_release_20 : decode cX8_release 20 = .ok (.ireturn, 1) := dd_all DX8_release_0_ok 11 rfl
theorem dX8_release_21 : decode cX8_release 21 = .ok (.aload_n 0, 1) := dd_all DX8_release_0_ok 12 rfl
theorem dX8_release_22 : decode cX8_release 22 = .ok (.iload_n 1, 1) := dd_all DX8_release_0_ok 13 rfl
theorem dX8_release_23 : decode cX8_release 23 = .ok (.iload_n 2, 1) := dd_all DX8_release_0_ok 14 rfl
theorem dX8_release_24 : decode cX8_release 24 = .ok (.invokevirtual 58, 3) := dd_all DX8_release_0_ok 15 rfl
theorem dX8_release_27 : decode cX8_release 27 = .ok (.istore_n 3, 1) := dd_all DX8_release_0_ok 16 rfl
theorem dX8_release_28 : decode cX8_release 28 = .ok (.iload_n 3, 1) := dd_all DX8_release_0_ok 17 rfl
theorem dX8_release_29 : decode cX8_release 29 = .ok (.ifCond .lt 55, 3) := dd_all DX8_release_0_ok 18 rfl
theorem dX8_release_32 : decode cX8_release 32 = .ok (.aload_n 0, 1) := dd_all DX8_release_0_ok 19 rfl
theorem dX8_release_33 : decode cX8_release 33 = .ok (.iload_n 3, 1) := dd_all DX8_release_0_ok 20 rfl
theorem dX8_release_34 : decode cX8_release 34 = .ok (.iconst 3, 1) := dd_all DX8_release_0_ok 21 rfl
theorem dX8_release_35 : decode cX8_release 35 = .ok (.invokevirtual 35, 3) := dd_all DX8_release_0_ok 22 rfl
theorem dX8_release_38 : decode cX8_release 38 = .ok (.iconst 4, 1) := dd_all DX8_release_0_ok 23 rfl
theorem dX8_release_39 : decode cX8_release 39 = .ok (.if_icmp .eq 45, 3) := dd_all DX8_release_0_ok 24 rfl
theorem dX8_release_42 : decode cX8_release 42 = .ok (.aload_n 0, 1) := dd_all DX8_release_0_ok 25 rfl
theorem dX8_release_43 : decode cX8_release 43 = .ok (.iload_n 3, 1) := dd_all DX8_release_0_ok 26 rfl
theorem dX8_release_44 : decode cX8_release 44 = .ok (.bipush 6, 2) := dd_all DX8_release_0_ok 27 rfl
theorem dX8_release_46 : decode cX8_release 46 = .ok (.invokevirtual 35, 3) := dd_all DX8_release_0_ok 28 rfl
theorem dX8_release_49 : decode cX8_release 49 = .ok (.ifCond .ne 35, 3) := dd_all DX8_release_0_ok 29 rfl
theorem dX8_release_52 : decode cX8_release 52 = .ok (.aload_n 0, 1) := dd_all DX8_release_0_ok 30 rfl
theorem dX8_release_53 : decode cX8_release 53 = .ok (.invokevirtual 61, 3) := dd_all DX8_release_0_ok 31 rfl
theorem dX8_release_56 : decode cX8_release 56 = .ok (.aload_n 0, 1) := dd_all DX8_release_0_ok 32 rfl
theorem dX8_release_57 : decode cX8_release 57 = .ok (.getfield 7, 3) := dd_all DX8_release_0_ok 33 rfl
theorem dX8_release_60 : decode cX8_release 60 = .ok (.iconst 2, 1) := dd_all DX8_release_0_ok 34 rfl
theorem dX8_release_61 : decode cX8_release 61 = .ok (.iaload, 1) := dd_all DX8_release_0_ok 35 rfl
theorem dX8_release_62 : decode cX8_release 62 = .ok (.iconst 1, 1) := dd_all DX8_release_0_ok 36 rfl
theorem dX8_release_63 : decode cX8_release 63 = .ok (.if_icmp .ne 14, 3) := dd_all DX8_release_0_ok 37 rfl
theorem dX8_release_66 : decode cX8_release 66 = .ok (.aload_n 0, 1) := dd_all DX8_release_0_ok 38 rfl
theorem dX8_release_67 : decode cX8_release 67 = .ok (.iload_n 3, 1) := dd_all DX8_release_0_ok 39 rfl
def DX8_release_40 : List (Nat × Instr × Nat) := [(68, .bipush 6, 2), (70, .iconst 1, 1), (71, .invokevirtual 51, 3), (74, .goto 8, 3), (77, .aload_n 0, 1), (78, .iload_n 3, 1), (79, .invokevirtual 79, 3), (82, .iload_n 3, 1), (83, .ireturn, 1), (84, .iconst 0, 1), (85, .istore 4, 2), (87, .iload 4, 2), (89, .aload_n 0, 1), (90, .getfield 7, 3), (93, .iconst 0, 1), (94, .iaload, 1), (95, .if_icmp .ge 57, 3), (98, .aload_n 0, 1), (99, .iload 4, 2), (101, .iconst 3, 1), (102, .invokevirtual 35, 3), (105, .ifCond .ne 41, 3), (108, .aload_n 0, 1), (109, .iload 4, 2), (111, .iconst 0, 1), (112, .invokevirtual 35, 3), (115, .iload_n 1, 1), (116, .if_icmp .ne 30, 3), (119, .aload_n 0, 1), (120, .iload 4, 2), (122, .iconst 1, 1), (123, .invokevirtual 35, 3), (126, .iload_n 2, 1), (127, .if_icmp .ne 19, 3), (130, .aload_n 0, 1), (131, .invokevirtual 61, 3), (134, .aload_n 0, 1), (135, .iload 4, 2), (137, .iconst 3, 1), (138, .bipush 6, 2)]
theorem DX8_release_40_ok : ∀ q ∈ DX8_release_40, decode cX8_release q.1 = .ok (q.2.1, q.2.2) := by decide +kernel
theorem dX8_release_68 : decode cX8_release 68 = .ok (.bipush 6, 2) := dd_all DX8_release_40_ok 0 rfl
theorem dX8_release_70 : decode cX8_release 70 = .ok (.iconst 1, 1) := dd_all DX8_release_40_ok 1 rfl
theorem dX8_release_71 : decode cX8_release 71 = .ok (.invokevirtual 51, 3) := dd_all DX8_release_40_ok 2 rfl
theorem dX8_release_74 : decode cX8_release 74 = .ok (.goto 8, 3) := dd_all DX8_release_40_ok 3 rfl
theorem dX8_release_77 : decode cX8_release 77 = .ok (.aload_n 0, 1) := dd_all DX8_release_40_ok 4 rfl
theorem dX8_release_78 : decode cX8_release 78 = .ok (.iload_n 3, 1) := dd_all DX8_release_40_ok 5 rfl
theorem dX8_release_79 : decode cX8_release 79 = .ok (.invokevirtual 79, 3) := dd_all DX8_release_40_ok 6 rfl
theorem dX8_release_82 : decode cX8_release 82 = .ok (.iload_n 3, 1) := dd_all DX8_release_40_ok 7 rfl
theorem dX8_release_83 : decode cX8_release 83 = .ok (.ireturn, 1) := dd_all DX8_release_40_ok 8 rfl
theorem dX8_release_84 : decode cX8_release 84 = .ok (.iconst 0, 1) := dd_all DX8_release_40_ok 9 rfl
theorem dX8_release_85 : decode cX8_release 85 = .ok (.istore 4, 2) := dd_all DX8_release_40_ok 10 rfl
theorem dX8_release_87 : decode cX8_release 87 = .ok (.iload 4, 2) := dd_all DX8_release_40_ok 11 rfl
theorem dX8_release_89 : decode cX8_release 89 = .ok (.aload_n 0, 1) := dd_all DX8_release_40_ok 12 rfl
theorem dX8_release_90 : decode cX8_release 90 = .ok (.getfield 7, 3) := dd_all DX8_release_40_ok 13 rfl
theorem dX8_release_93 : decode cX8_release 93 = .ok (.iconst 0, 1) := dd_all DX8_release_40_ok 14 rfl
theorem dX8_release_94 : decode cX8_release 94 = .ok (.iaload, 1) := dd_all DX8_release_40_ok 15 rfl
theorem dX8_release_95 : decode cX8_release 95 = .ok (.if_icmp .ge 57, 3) := dd_all DX8_release_40_ok 16 rfl
theorem dX8_release_98 : decode cX8_release 98 = .ok (.aload_n 0, 1) := dd_all DX8_release_40_ok 17 rfl
theorem dX8_release_99 : decode cX8_release 99 = .ok (.iload 4, 2) := dd_all DX8_release_40_ok 18 rfl
theorem dX8_release_101 : decode cX8_release 101 = .ok (.iconst 3, 1) := dd_all DX8_release_40_ok 19 rfl
theorem dX8_release_102 : decode cX8_release 102 = .ok (.invokevirtual 35, 3) := dd_all DX8_release_40_ok 20 rfl
theorem dX8_release_105 : decode cX8_release 105 = .ok (.ifCond .ne 41, 3) := dd_all DX8_release_40_ok 21 rfl
theorem dX8_release_108 : decode cX8_release 108 = .ok (.aload_n 0, 1) := dd_all DX8_release_40_ok 22 rfl
theorem dX8_release_109 : decode cX8_release 109 = .ok (.iload 4, 2) := dd_all DX8_release_40_ok 23 rfl
theorem dX8_release_111 : decode cX8_release 111 = .ok (.iconst 0, 1) := dd_all DX8_release_40_ok 24 rfl
theorem dX8_release_112 : decode cX8_release 112 = .ok (.invokevirtual 35, 3) := dd_all DX8_release_40_ok 25 rfl
theorem dX8_release_115 : decode cX8_release 115 = .ok (.iload_n 1, 1) := dd_all DX8_release_40_ok 26 rfl
theorem dX8_release_116 : decode cX8_release 116 = .ok (.if_icmp .ne 30, 3) := dd_all DX8_release_40_ok 27 rfl
theorem dX8_release_119 : decode cX8_release 119 = .ok (.aload_n 0, 1) := dd_all DX8_release_40_ok 28 rfl
theorem dX8_release_120 : decode cX8_release 120 = .ok (.iload 4, 2) := dd_all DX8_release_40_ok 29 rfl
theorem dX8_release_122 : decode cX8_release 122 = .ok (.iconst 1, 1) := dd_all DX8_release_40_ok 30 rfl
theorem dX8_release_123 : decode cX8_release 123 = .ok (.invokevirtual 35, 3) := dd_all DX8_release_40_ok 31 rfl
theorem dX8_release_126 : decode cX8_release 126 = .ok (.iload_n 2, 1) := dd_all DX8_release_40_ok 32 rfl
theorem dX8_release_127 : decode cX8_release 127 = .ok (.if_icmp .ne 19, 3) := dd_all DX8_release_40_ok 33 rfl
theorem dX8_release_130 : decode cX8_release 130 = .ok (.aload_n 0, 1) := dd_all DX8_release_40_ok 34 rfl
theorem dX8_release_131 : decode cX8_release 131 = .ok (.invokevirtual 61, 3) := dd_all DX8_release_40_ok 35 rfl
theorem dX8_release_134 : decode cX8_release 134 = .ok (.aload_n 0, 1) := dd_all DX8_release_40_ok 36 rfl
theorem dX8_release_135 : decode cX8_release 135 = .ok (.iload 4, 2) := dd_all DX8_release_40_ok 37 rfl
theorem dX8_release_137 : decode cX8_release 137 = .ok (.iconst 3, 1) := dd_all DX8_release_40_ok 38 rfl
theorem dX8_release_138 : decode cX8_release 138 = .ok (.bipush 6, 2) := dd_all DX8_release_40_ok 39 rfl
def DX8_release_80 : List (Nat × Instr × Nat) := [(140, .invokevirtual 51, 3), (143, .iload 4, 2), (145, .ireturn, 1), (146, .iinc 4 1, 3), (149, .goto (-62), 3), (152, .bipush (-2), 2), (154, .ireturn, 1)]
theorem DX8_release_80_ok : ∀ q ∈ DX8_release_80, decode cX8_release q.1 = .ok (q.2.1, q.2.2) := by decide +kernel
theorem dX8_release_140 : decode cX8_release 140 = .ok (.invokevirtual 51, 3) := dd_all DX8_release_80_ok 0 rfl
theorem dX8_release_143 : decode cX8_release 143 = .ok (.iload 4, 2) := dd_all DX8_release_80_ok 1 rfl
theorem dX8_release_145 : decode cX8_release 145 = .ok (.ireturn, 1) := dd_all DX8_release_80_ok 2 rfl
theorem dX8_release_146 : decode cX8_release 146 = .ok (.iinc 4 1, 3) := dd_all DX8_release_80_ok 3 rfl
theorem dX8_release_149 : decode cX8_release 149 = .ok (.goto (-62), 3) := dd_all DX8_release_80_ok 4 rfl
theorem dX8_release_152 : decode cX8_release 152 = .ok (.bipush (-2), 2) := dd_all DX8_release_80_ok 5 rfl
theorem dX8_release_154 : decode cX8_release 154 = .ok (.ireturn, 1) := dd_all DX8_release_80_ok 6 rfl
def DX8_lifts_0 : List (Nat × Instr × Nat) := [(0, .iconst 0, 1), (1, .istore_n 1, 1), (2, .aload_n 0, 1), (3, .getfield 7, 3), (6, .iconst 2, 1), (7, .iconst 0, 1), (8, .iastore, 1), (9, .iconst 0, 1), (10, .istore_n 2, 1), (11, .iload_n 2, 1), (12, .aload_n 0, 1), (13, .getfield 7, 3), (16, .iconst 0, 1), (17, .iaload, 1), (18, .if_icmp .ge 36, 3), (21, .aload_n 0, 1), (22, .iload_n 2, 1), (23, .invokevirtual 47, 3), (26, .ifCond .eq 22, 3), (29, .aload_n 0, 1), (30, .iload_n 2, 1), (31, .bipush 6, 2), (33, .invokevirtual 35, 3), (36, .iconst 1, 1), (37, .if_icmp .ne 11, 3), (40, .aload_n 0, 1), (41, .iload_n 2, 1), (42, .invokevirtual 79, 3), (45, .iinc 1 1, 3), (48, .iinc 2 1, 3), (51, .goto (-40), 3), (54, .iload_n 1, 1), (55, .ireturn, 1)]
theorem DX8_lifts_0_ok : ∀ q ∈ DX8_lifts_0, decode cX8_lifts q.1 = .ok (q.2.1, q.2.2) := by decide +kernel
theorem dX8_lifts_0 : decode cX8_lifts 0 = .ok (.iconst 0, 1) := dd_all DX8_lifts_0_ok 0 rfl
theorem dX8_lifts_1 : decode cX8_lifts 1 = .ok (.istore_n 1, 1) := dd_all DX8_lifts_0_ok 1 rfl
theorem dX8_lifts_2 : decode cX8_lifts 2 = .ok (.aload_n 0, 1) := dd_all DX8_lifts_0_ok 2 rfl
theorem dX8_lifts_3 : decode cX8_lifts 3 = .ok (.getfield 7, 3) := dd_all DX8_lifts_0_ok 3 rfl
theorem dX8_lifts_6 : decode cX8_lifts 6 = .ok (.iconst 2, 1) := dd_all DX8_lifts_0_ok 4 rfl
theorem dX8_lifts_7 : decode cX8_lifts 7 = .ok (.iconst 0, 1) := dd_all DX8_lifts_0_ok 5 rfl
theorem dX8_lifts_8 : decode cX8_lifts 8 = .ok (.iastore, 1) := dd_all DX8_lifts_0_ok 6 rfl
theorem dX8_lifts_9 : decode cX8_lifts 9 = .ok (.iconst 0, 1) := dd_all DX8_lifts_0_ok 7 rfl
theorem dX8_lifts_10 : decode cX8_lifts 10 = .ok (.istore_n 2, 1) := dd_all DX8_lifts_0_ok 8 rfl
theorem dX8_lifts_11 : decode cX8_lifts 11 = .ok (.iload_n 2, 1) := dd_all DX8_lifts_0_ok 9 rfl
theorem dX8_lifts_12 : decode cX8_lifts 12 = .ok (.aload_n 0, 1) := dd_all DX8_lifts_0_ok 10 rfl
theorem dX8_lifts_13 : decode cX8_lifts 13 = .ok (.getfield 7, 3) := dd_all DX8_lifts_0_ok 11 rfl
theorem dX8_lifts_16 : decode cX8_lifts 16 = .ok (.iconst 0, 1) := dd_all DX8_lifts_0_ok 12 rfl
theorem dX8_lifts_17 : decode cX8_lifts 17 = .ok (.iaload, 1) := dd_all DX8_lifts_0_ok 13 rfl
theorem dX8_lifts_18 : decode cX8_lifts 18 = .ok (.if_icmp .ge 36, 3) := dd_all DX8_lifts_0_ok 14 rfl
theorem dX8_lifts_21 : decode cX8_lifts 21 = .ok (.aload_n 0, 1) := dd_all DX8_lifts_0_ok 15 rfl
theorem dX8_lifts_22 : decode cX8_lifts 22 = .ok (.iload_n 2, 1) := dd_all DX8_lifts_0_ok 16 rfl
theorem dX8_lifts_23 : decode cX8_lifts 23 = .ok (.invokevirtual 47, 3) := dd_all DX8_lifts_0_ok 17 rfl
theorem dX8_lifts_26 : decode cX8_lifts 26 = .ok (.ifCond .eq 22, 3) := dd_all DX8_lifts_0_ok 18 rfl
theorem dX8_lifts_29 : decode cX8_lifts 29 = .ok (.aload_n 0, 1) := dd_all DX8_lifts_0_ok 19 rfl
theorem dX8_lifts_30 : decode cX8_lifts 30 = .ok (.iload_n 2, 1) := dd_all DX8_lifts_0_ok 20 rfl
theorem dX8_lifts_31 : decode cX8_lifts 31 = .ok (.bipush 6, 2) := dd_all DX8_lifts_0_ok 21 rfl
theorem dX8_lifts_33 : decode cX8_lifts 33 = .ok (.invokevirtual 35, 3) := dd_all DX8_lifts_0_ok 22 rfl
theorem dX8_lifts_36 : decode cX8_lifts 36 = .ok (.iconst 1, 1) := dd_all DX8_lifts_0_ok 23 rfl
theorem dX8_lifts_37 : decode cX8_lifts 37 = .ok (.if_icmp .ne 11, 3) := dd_all DX8_lifts_0_ok 24 rfl
theorem dX8_lifts_40 : decode cX8_lifts 40 = .ok (.aload_n 0, 1) := dd_all DX8_lifts_0_ok 25 rfl
theorem dX8_lifts_41 : decode cX8_lifts 41 = .ok (.iload_n 2, 1) := dd_all DX8_lifts_0_ok 26 rfl
theorem dX8_lifts_42 : decode cX8_lifts 42 = .ok (.invokevirtual 79, 3) := dd_all DX8_lifts_0_ok 27 rfl
theorem dX8_lifts_45 : decode cX8_lifts 45 = .ok (.iinc 1 1, 3) := dd_all DX8_lifts_0_ok 28 rfl
theorem dX8_lifts_48 : decode cX8_lifts 48 = .ok (.iinc 2 1, 3) := dd_all DX8_lifts_0_ok 29 rfl
theorem dX8_lifts_51 : decode cX8_lifts 51 = .ok (.goto (-40), 3) := dd_all DX8_lifts_0_ok 30 rfl
theorem dX8_lifts_54 : decode cX8_lifts 54 = .ok (.iload_n 1, 1) := dd_all DX8_lifts_0_ok 31 rfl
theorem dX8_lifts_55 : decode cX8_lifts 55 = .ok (.ireturn, 1) := dd_all DX8_lifts_0_ok 32 rfl
def DX8_pedal_0 : List (Nat × Instr × Nat) := [(0, .iload_n 1, 1), (1, .iconst 0, 1), (2, .iconst 1, 1), (3, .invokestatic 39, 3), (6, .ifCond .ne 5, 3), (9, .iconst (-1), 1), (10, .ireturn, 1), (11, .aload_n 0, 1), (12, .getfield 7, 3), (15, .iconst 2, 1), (16, .iaload, 1), (17, .iload_n 1, 1), (18, .if_icmp .ne 6, 3), (21, .bipush (-2), 2), (23, .ireturn, 1), (24, .aload_n 0, 1), (25, .invokevirtual 61, 3), (28, .aload_n 0, 1), (29, .getfield 7, 3), (32, .iconst 2, 1), (33, .iload_n 1, 1), (34, .iastore, 1), (35, .iload_n 1, 1), (36, .iconst 1, 1), (37, .if_icmp .ne 7, 3), (40, .iconst 0, 1), (41, .goto 7, 3), (44, .aload_n 0, 1), (45, .invokevirtual 82, 3), (48, .ireturn, 1)]
theorem DX8_pedal_0_ok : ∀ q ∈ DX8_pedal_0, decode cX8_pedal q.1 = .ok (q.2.1, q.2.2) := by decide +kernel
theorem dX8_pedal_0 : decode cX8_pedal 0 = .ok (.iload_n 1, 1) := dd_all DX8_pedal_0_ok 0 rfl
theorem dX8_pedal_1 : decode cX8_pedal 1 = .ok (.iconst 0, 1) := dd_all DX8_pedal_0_ok 1 rfl
theorem dX8_pedal_2 : decode cX8_pedal 2 = .ok (.iconst 1, 1) := dd_all DX8_pedal_0_ok 2 rfl
theorem dX8_pedal_3 : decode cX8_pedal 3 = .ok (.invokestatic 39, 3) := dd_all DX8_pedal_0_ok 3 rfl
theorem dX8_pedal_6 : decode cX8_pedal 6 = .ok (.ifCond .ne 5, 3) := dd_all DX8_pedal_0_ok 4 rfl
theorem dX8_pedal_9 : decode cX8_pedal 9 = .ok (.iconst (-1), 1) := dd_all DX8_pedal_0_ok 5 rfl
theorem dX8_pedal_10 : decode cX8_pedal 10 = .ok (.ireturn, 1) := dd_all DX8_pedal_0_ok 6 rfl
theorem dX8_pedal_11 : decode cX8_pedal 11 = .ok (.aload_n 0, 1) := dd_all DX8_pedal_0_ok 7 rfl
theorem dX8_pedal_12 : decode cX8_pedal 12 = .ok (.getfield 7, 3) := dd_all DX8_pedal_0_ok 8 rfl
theorem dX8_pedal_15 : decode cX8_pedal 15 = .ok (.iconst 2, 1) := dd_all DX8_pedal_0_ok 9 rfl
theorem dX8_pedal_16 : decode cX8_pedal 16 = .ok (.iaload, 1) := dd_all DX8_pedal_0_ok 10 rfl
theorem dX8_pedal_17 : decode cX8_pedal 17 = .ok (.iload_n 1, 1) := dd_all DX8_pedal_0_ok 11 rfl
theorem dX8_pedal_18 : decode cX8_pedal 18 = .ok (.if_icmp .ne 6, 3) := dd_all DX8_pedal_0_ok 12 rfl
theorem dX8_pedal_21 : decode cX8_pedal 21 = .ok (.bipush (-2), 2) := dd_all DX8_pedal_0_ok 13 rfl
theorem dX8_pedal_23 : decode cX8_pedal 23 = .ok (.ireturn, 1) := dd_all DX8_pedal_0_ok 14 rfl
theorem dX8_pedal_24 : decode cX8_pedal 24 = .ok (.aload_n 0, 1) := dd_all DX8_pedal_0_ok 15 rfl
theorem dX8_pedal_25 : decode cX8_pedal 25 = .ok (.invokevirtual 61, 3) := dd_all DX8_pedal_0_ok 16 rfl
theorem dX8_pedal_28 : decode cX8_pedal 28 = .ok (.aload_n 0, 1) := dd_all DX8_pedal_0_ok 17 rfl
theorem dX8_pedal_29 : decode cX8_pedal 29 = .ok (.getfield 7, 3) := dd_all DX8_pedal_0_ok 18 rfl
theorem dX8_pedal_32 : decode cX8_pedal 32 = .ok (.iconst 2, 1) := dd_all DX8_pedal_0_ok 19 rfl
theorem dX8_pedal_33 : decode cX8_pedal 33 = .ok (.iload_n 1, 1) := dd_all DX8_pedal_0_ok 20 rfl
theorem dX8_pedal_34 : decode cX8_pedal 34 = .ok (.iastore, 1) := dd_all DX8_pedal_0_ok 21 rfl
theorem dX8_pedal_35 : decode cX8_pedal 35 = .ok (.iload_n 1, 1) := dd_all DX8_pedal_0_ok 22 rfl
theorem dX8_pedal_36 : decode cX8_pedal 36 = .ok (.iconst 1, 1) := dd_all DX8_pedal_0_ok 23 rfl
theorem dX8_pedal_37 : decode cX8_pedal 37 = .ok (.if_icmp .ne 7, 3) := dd_all DX8_pedal_0_ok 24 rfl
theorem dX8_pedal_40 : decode cX8_pedal 40 = .ok (.iconst 0, 1) := dd_all DX8_pedal_0_ok 25 rfl
theorem dX8_pedal_41 : decode cX8_pedal 41 = .ok (.goto 7, 3) := dd_all DX8_pedal_0_ok 26 rfl
theorem dX8_pedal_44 : decode cX8_pedal 44 = .ok (.aload_n 0, 1) := dd_all DX8_pedal_0_ok 27 rfl
theorem dX8_pedal_45 : decode cX8_pedal 45 = .ok (.invokevirtual 82, 3) := dd_all DX8_pedal_0_ok 28 rfl
theorem dX8_pedal_48 : decode cX8_pedal 48 = .ok (.ireturn, 1) := dd_all DX8_pedal_0_ok 29 rfl
def DX8_moves_0 : List (Nat × Instr × Nat) := [(0, .aload_n 0, 1), (1, .iload_n 1, 1), (2, .iconst 0, 1), (3, .invokevirtual 35, 3), (6, .istore_n 2, 1), (7, .aload_n 0, 1), (8, .iload_n 1, 1), (9, .iconst 4, 1), (10, .invokevirtual 35, 3), (13, .istore_n 3, 1), (14, .aload_n 0, 1), (15, .iload_n 1, 1), (16, .invokevirtual 43, 3), (19, .istore 4, 2), (21, .aload_n 0, 1), (22, .iload_n 1, 1), (23, .invokevirtual 85, 3), (26, .istore 5, 2), (28, .iload_n 3, 1), (29, .istore 6, 2), (31, .aload_n 0, 1), (32, .iload_n 1, 1), (33, .iconst 3, 1), (34, .invokevirtual 35, 3), (37, .tableswitch 207 1 5 #[35, 85, 207, 138, 138], 35), (72, .iload_n 3, 1), (73, .iload 4, 2), (75, .iload_n 2, 1), (76, .invokestatic 88, 3), (79, .invokestatic 91, 3), (82, .iadd, 1), (83, .istore 6, 2), (85, .iload 6, 2), (87, .iload 4, 2), (89, .if_icmp .le 8, 3), (92, .iload 4, 2), (94, .goto 5, 3), (97, .iload 6, 2), (99, .istore 6, 2), (101, .aload_n 0, 1)]
theorem DX8_moves_0_ok : ∀ q ∈ DX8_moves_0, decode cX8_moves q.1 = .ok (q.2.1, q.2.2) := by decide +kernel
theorem dX8_moves_0 : decode cX8_moves 0 = .ok (.aload_n 0, 1) := dd_all DX8_moves_0_ok 0 rfl
theorem dX8_moves_1 : decode cX8_moves 1 = .ok (.iload_n 1, 1) := dd_all DX8_moves_0_ok 1 rfl
theorem dX8_moves_2 : decode cX8_moves 2 = .ok (.iconst 0, 1) := dd_all DX8_moves_0_ok 2 rfl
theorem dX8_moves_3 : decode cX8_moves 3 = .ok (.invokevirtual 35, 3) := dd_all DX8_moves_0_ok 3 rfl
theorem dX8_moves_6 : decode cX8_moves 6 = .ok (.istore_n 2, 1) := dd_all DX8_moves_0_ok 4 rfl
theorem dX8_moves_7 : decode cX8_moves 7 = .ok (.aload_n 0, 1) := dd_all DX8_moves_0_ok 5 rfl
theorem dX8_moves_8 : decode cX8_moves 8 = .ok (.iload_n 1, 1) := dd_all DX8_moves_0_ok 6 rfl
theorem dX8_moves_9 : decode cX8_moves 9 = .ok (.iconst 4, 1) := dd_all DX8_moves_0_ok 7 rfl
theorem dX8_moves_10 : decode cX8_moves 10 = .ok (.invokevirtual 35, 3) := dd_all DX8_moves_0_ok 8 rfl
theorem dX8_moves_13 : decode cX8_moves 13 = .ok (.istore_n 3, 1) := dd_all DX8_moves_0_ok 9 rfl
theorem dX8_moves_14 : decode cX8_moves 14 = .ok (.aload_n 0, 1) := dd_all DX8_moves_0_ok 10 rfl
theorem dX8_moves_15 : decode cX8_moves 15 = .ok (.iload_n 1, 1) := dd_all DX8_moves_0_ok 11 rfl
theorem dX8_moves_16 : decode cX8_moves 16 = .ok (.invokevirtual 43, 3) := dd_all DX8_moves_0_ok 12 rfl
theorem dX8_moves_19 : decode cX8_moves 19 = .ok (.istore 4, 2) := dd_all DX8_moves_0_ok 13 rfl
theorem dX8_moves_21 : decode cX8_moves 21 = .ok (.aload_n 0, 1) := dd_all DX8_moves_0_ok 14 rfl
theorem dX8_moves_22 : decode cX8_moves 22 = .ok (.iload_n 1, 1) := dd_all DX8_moves_0_ok 15 rfl
theorem dX8_moves_23 : decode cX8_moves 23 = .ok (.invokevirtual 85, 3) := dd_all DX8_moves_0_ok 16 rfl
theorem dX8_moves_26 : decode cX8_moves 26 = .ok (.istore 5, 2) := dd_all DX8_moves_0_ok 17 rfl
theorem dX8_moves_28 : decode cX8_moves 28 = .ok (.iload_n 3, 1) := dd_all DX8_moves_0_ok 18 rfl
theorem dX8_moves_29 : decode cX8_moves 29 = .ok (.istore 6, 2) := dd_all DX8_moves_0_ok 19 rfl
theorem dX8_moves_31 : decode cX8_moves 31 = .ok (.aload_n 0, 1) := dd_all DX8_moves_0_ok 20 rfl
theorem dX8_moves_32 : decode cX8_moves 32 = .ok (.iload_n 1, 1) := dd_all DX8_moves_0_ok 21 rfl
theorem dX8_moves_33 : decode cX8_moves 33 = .ok (.iconst 3, 1) := dd_all DX8_moves_0_ok 22 rfl
theorem dX8_moves_34 : decode cX8_moves 34 = .ok (.invokevirtual 35, 3) := dd_all DX8_moves_0_ok 23 rfl
theorem dX8_moves_37 : decode cX8_moves 37 = .ok (.tableswitch 207 1 5 #[35, 85, 207, 138, 138], 35) := dd_all DX8_moves_0_ok 24 rfl
theorem dX8_moves_72 : decode cX8_moves 72 = .ok (.iload_n 3, 1) := dd_all DX8_moves_0_ok 25 rfl
theorem dX8_moves_73 : decode cX8_moves 73 = .ok (.iload 4, 2) := dd_all DX8_moves_0_ok 26 rfl
theorem dX8_moves_75 : decode cX8_moves 75 = .ok (.iload_n 2, 1) := dd_all DX8_moves_0_ok 27 rfl
theorem dX8_moves_76 : decode cX8_moves 76 = .ok (.invokestatic 88, 3) := dd_all DX8_moves_0_ok 28 rfl
theorem dX8_moves_79 : decode cX8_moves 79 = .ok (.invokestatic 91, 3) := dd_all DX8_moves_0_ok 29 rfl
theorem dX8_moves_82 : decode cX8_moves 82 = .ok (.iadd, 1) := dd_all DX8_moves_0_ok 30 rfl
theorem dX8_moves_83 : decode cX8_moves 83 = .ok (.istore 6, 2) := dd_all DX8_moves_0_ok 31 rfl
theorem dX8_moves_85 : decode cX8_moves 85 = .ok (.iload 6, 2) := dd_all DX8_moves_0_ok 32 rfl
theorem dX8_moves_87 : decode cX8_moves 87 = .ok (.iload 4, 2) := dd_all DX8_moves_0_ok 33 rfl
theorem dX8_moves_89 : decode cX8_moves 89 = .ok (.if_icmp .le 8, 3) := dd_all DX8_moves_0_ok 34 rfl
theorem dX8_moves_92 : decode cX8_moves 92 = .ok (.iload 4, 2) := dd_all DX8_moves_0_ok 35 rfl
theorem dX8_moves_94 : decode cX8_moves 94 = .ok (.goto 5, 3) := dd_all DX8_moves_0_ok 36 rfl
theorem dX8_moves_97 : decode cX8_moves 97 = .ok (.iload 6, 2) := dd_all DX8_moves_0_ok 37 rfl
theorem dX8_moves_99 : decode cX8_moves 99 = .ok (.istore 6, 2) := dd_all DX8_moves_0_ok 38 rfl
theorem dX8_moves_101 : decode cX8_moves 101 = .ok (.aload_n 0, 1) := dd_all DX8_moves_0_ok 39 rfl
def DX8_moves_40 : List (Nat × Instr × Nat) := [(102, .iload_n 1, 1), (103, .iconst 3, 1), (104, .iload 6, 2), (106, .iload 4, 2), (108, .if_icmp .ne 7, 3), (111, .iconst 2, 1), (112, .goto 4, 3), (115, .iconst 1, 1), (116, .invokevirtual 51, 3), (119, .goto 125, 3), (122, .iload_n 3, 1), (123, .iload 4, 2), (125, .iload 5, 2), (127, .isub, 1), (128, .iload_n 2, 1), (129, .invokestatic 94, 3), (132, .invokestatic 91, 3), (135, .isub, 1), (136, .istore 6, 2), (138, .iload 6, 2), (140, .iload 5, 2), (142, .if_icmp .ge 8, 3), (145, .iload 5, 2), (147, .goto 5, 3), (150, .iload 6, 2), (152, .istore 6, 2), (154, .aload_n 0, 1), (155, .iload_n 1, 1), (156, .iconst 3, 1), (157, .iload 6, 2), (159, .iload 5, 2), (161, .if_icmp .ne 7, 3), (164, .iconst 3, 1), (165, .goto 4, 3), (168, .iconst 2, 1), (169, .invokevirtual 51, 3), (172, .goto 72, 3), (175, .iload_n 3, 1), (176, .aload_n 0, 1), (177, .iload_n 1, 1)]
theorem DX8_moves_40_ok : ∀ q ∈ DX8_moves_40, decode cX8_moves q.1 = .ok (q.2.1, q.2.2) := by decide +kernel
theorem dX8_moves_102 : decode cX8_moves 102 = .ok (.iload_n 1, 1) := dd_all DX8_moves_40_ok 0 rfl
theorem dX8_moves_103 : decode cX8_moves 103 = .ok (.iconst 3, 1) := dd_all DX8_moves_40_ok 1 rfl
theorem dX8_moves_104 : decode cX8_moves 104 = .ok (.iload 6, 2) := dd_all DX8_moves_40_ok 2 rfl
theorem dX8_moves_106 : decode cX8_moves 106 = .ok (.iload 4, 2) := dd_all DX8_moves_40_ok 3 rfl
theorem dX8_moves_108 : decode cX8_moves 108 = .ok (.if_icmp .ne 7, 3) := dd_all DX8_moves_40_ok 4 rfl
theorem dX8_moves_111 : decode cX8_moves 111 = .ok (.iconst 2, 1) := dd_all DX8_moves_40_ok 5 rfl
theorem dX8_moves_112 : decode cX8_moves 112 = .ok (.goto 4, 3) := dd_all DX8_moves_40_ok 6 rfl
theorem dX8_moves_115 : decode cX8_moves 115 = .ok (.iconst 1, 1) := dd_all DX8_moves_40_ok 7 rfl
theorem dX8_moves_116 : decode cX8_moves 116 = .ok (.invokevirtual 51, 3) := dd_all DX8_moves_40_ok 8 rfl
theorem dX8_moves_119 : decode cX8_moves 119 = .ok (.goto 125, 3) := dd_all DX8_moves_40_ok 9 rfl
theorem dX8_moves_122 : decode cX8_moves 122 = .ok (.iload_n 3, 1) := dd_all DX8_moves_40_ok 10 rfl
theorem dX8_moves_123 : decode cX8_moves 123 = .ok (.iload 4, 2) := dd_all DX8_moves_40_ok 11 rfl
theorem dX8_moves_125 : decode cX8_moves 125 = .ok (.iload 5, 2) := dd_all DX8_moves_40_ok 12 rfl
theorem dX8_moves_127 : decode cX8_moves 127 = .ok (.isub, 1) := dd_all DX8_moves_40_ok 13 rfl
theorem dX8_moves_128 : decode cX8_moves 128 = .ok (.iload_n 2, 1) := dd_all DX8_moves_40_ok 14 rfl
theorem dX8_moves_129 : decode cX8_moves 129 = .ok (.invokestatic 94, 3) := dd_all DX8_moves_40_ok 15 rfl
theorem dX8_moves_132 : decode cX8_moves 132 = .ok (.invokestatic 91, 3) := dd_all DX8_moves_40_ok 16 rfl
theorem dX8_moves_135 : decode cX8_moves 135 = .ok (.isub, 1) := dd_all DX8_moves_40_ok 17 rfl
theorem dX8_moves_136 : decode cX8_moves 136 = .ok (.istore 6, 2) := dd_all DX8_moves_40_ok 18 rfl
theorem dX8_moves_138 : decode cX8_moves 138 = .ok (.iload 6, 2) := dd_all DX8_moves_40_ok 19 rfl
theorem dX8_moves_140 : decode cX8_moves 140 = .ok (.iload 5, 2) := dd_all DX8_moves_40_ok 20 rfl
theorem dX8_moves_142 : decode cX8_moves 142 = .ok (.if_icmp .ge 8, 3) := dd_all DX8_moves_40_ok 21 rfl
theorem dX8_moves_145 : decode cX8_moves 145 = .ok (.iload 5, 2) := dd_all DX8_moves_40_ok 22 rfl
theorem dX8_moves_147 : decode cX8_moves 147 = .ok (.goto 5, 3) := dd_all DX8_moves_40_ok 23 rfl
theorem dX8_moves_150 : decode cX8_moves 150 = .ok (.iload 6, 2) := dd_all DX8_moves_40_ok 24 rfl
theorem dX8_moves_152 : decode cX8_moves 152 = .ok (.istore 6, 2) := dd_all DX8_moves_40_ok 25 rfl
theorem dX8_moves_154 : decode cX8_moves 154 = .ok (.aload_n 0, 1) := dd_all DX8_moves_40_ok 26 rfl
theorem dX8_moves_155 : decode cX8_moves 155 = .ok (.iload_n 1, 1) := dd_all DX8_moves_40_ok 27 rfl
theorem dX8_moves_156 : decode cX8_moves 156 = .ok (.iconst 3, 1) := dd_all DX8_moves_40_ok 28 rfl
theorem dX8_moves_157 : decode cX8_moves 157 = .ok (.iload 6, 2) := dd_all DX8_moves_40_ok 29 rfl
theorem dX8_moves_159 : decode cX8_moves 159 = .ok (.iload 5, 2) := dd_all DX8_moves_40_ok 30 rfl
theorem dX8_moves_161 : decode cX8_moves 161 = .ok (.if_icmp .ne 7, 3) := dd_all DX8_moves_40_ok 31 rfl
theorem dX8_moves_164 : decode cX8_moves 164 = .ok (.iconst 3, 1) := dd_all DX8_moves_40_ok 32 rfl
theorem dX8_moves_165 : decode cX8_moves 165 = .ok (.goto 4, 3) := dd_all DX8_moves_40_ok 33 rfl
theorem dX8_moves_168 : decode cX8_moves 168 = .ok (.iconst 2, 1) := dd_all DX8_moves_40_ok 34 rfl
theorem dX8_moves_169 : decode cX8_moves 169 = .ok (.invokevirtual 51, 3) := dd_all DX8_moves_40_ok 35 rfl
theorem dX8_moves_172 : decode cX8_moves 172 = .ok (.goto 72, 3) := dd_all DX8_moves_40_ok 36 rfl
theorem dX8_moves_175 : decode cX8_moves 175 = .ok (.iload_n 3, 1) := dd_all DX8_moves_40_ok 37 rfl
theorem dX8_moves_176 : decode cX8_moves 176 = .ok (.aload_n 0, 1) := dd_all DX8_moves_40_ok 38 rfl
theorem dX8_moves_177 : decode cX8_moves 177 = .ok (.iload_n 1, 1) := dd_all DX8_moves_40_ok 39 rfl
def DX8_moves_80 : List (Nat × Instr × Nat) := [(178, .iconst 5, 1), (179, .invokevirtual 35, 3), (182, .aload_n 0, 1), (183, .iload_n 1, 1), (184, .iconst 3, 1), (185, .invokevirtual 35, 3), (188, .iconst 4, 1), (189, .if_icmp .ne 10, 3), (192, .iload_n 2, 1), (193, .invokestatic 97, 3), (196, .goto 4, 3), (199, .iconst 3, 1), (200, .invokestatic 91, 3), (203, .isub, 1), (204, .istore 6, 2), (206, .iload 6, 2), (208, .ifCond .ge 7, 3), (211, .iconst 0, 1), (212, .goto 5, 3), (215, .iload 6, 2), (217, .istore 6, 2), (219, .aload_n 0, 1), (220, .iload_n 1, 1), (221, .iconst 3, 1), (222, .iload 6, 2), (224, .ifCond .ne 8, 3), (227, .bipush 6, 2), (229, .goto 9, 3), (232, .aload_n 0, 1), (233, .iload_n 1, 1), (234, .iconst 3, 1), (235, .invokevirtual 35, 3), (238, .invokevirtual 51, 3), (241, .goto 3, 3), (244, .aload_n 0, 1), (245, .iload_n 1, 1), (246, .iconst 4, 1), (247, .iload 6, 2), (249, .invokevirtual 51, 3), (252, .return_, 1)]
theorem DX8_moves_80_ok : ∀ q ∈ DX8_moves_80, decode cX8_moves q.1 = .ok (q.2.1, q.2.2) := by decide +kernel
theorem dX8_moves_178 : decode cX8_moves 178 = .ok (.iconst 5, 1) := dd_all DX8_moves_80_ok 0 rfl
theorem dX8_moves_179 : decode cX8_moves 179 = .ok (.invokevirtual 35, 3) := dd_all DX8_moves_80_ok 1 rfl
theorem dX8_moves_182 : decode cX8_moves 182 = .ok (.aload_n 0, 1) := dd_all DX8_moves_80_ok 2 rfl
theorem dX8_moves_183 : decode cX8_moves 183 = .ok (.iload_n 1, 1) := dd_all DX8_moves_80_ok 3 rfl
theorem dX8_moves_184 : decode cX8_moves 184 = .ok (.iconst 3, 1) := dd_all DX8_moves_80_ok 4 rfl
theorem dX8_moves_185 : decode cX8_moves 185 = .ok (.invokevirtual 35, 3) := dd_all DX8_moves_80_ok 5 rfl
theorem dX8_moves_188 : decode cX8_moves 188 = .ok (.iconst 4, 1) := dd_all DX8_moves_80_ok 6 rfl
theorem dX8_moves_189 : decode cX8_moves 189 = .ok (.if_icmp .ne 10, 3) := dd_all DX8_moves_80_ok 7 rfl
theorem dX8_moves_192 : decode cX8_moves 192 = .ok (.iload_n 2, 1) := dd_all DX8_moves_80_ok 8 rfl
theorem dX8_moves_193 : decode cX8_moves 193 = .ok (.invokestatic 97, 3) := dd_all DX8_moves_80_ok 9 rfl
theorem dX8_moves_196 : decode cX8_moves 196 = .ok (.goto 4, 3) := dd_all DX8_moves_80_ok 10 rfl
theorem dX8_moves_199 : decode cX8_moves 199 = .ok (.iconst 3, 1) := dd_all DX8_moves_80_ok 11 rfl
theorem dX8_moves_200 : decode cX8_moves 200 = .ok (.invokestatic 91, 3) := dd_all DX8_moves_80_ok 12 rfl
theorem dX8_moves_203 : decode cX8_moves 203 = .ok (.isub, 1) := dd_all DX8_moves_80_ok 13 rfl
theorem dX8_moves_204 : decode cX8_moves 204 = .ok (.istore 6, 2) := dd_all DX8_moves_80_ok 14 rfl
theorem dX8_moves_206 : decode cX8_moves 206 = .ok (.iload 6, 2) := dd_all DX8_moves_80_ok 15 rfl
theorem dX8_moves_208 : decode cX8_moves 208 = .ok (.ifCond .ge 7, 3) := dd_all DX8_moves_80_ok 16 rfl
theorem dX8_moves_211 : decode cX8_moves 211 = .ok (.iconst 0, 1) := dd_all DX8_moves_80_ok 17 rfl
theorem dX8_moves_212 : decode cX8_moves 212 = .ok (.goto 5, 3) := dd_all DX8_moves_80_ok 18 rfl
theorem dX8_moves_215 : decode cX8_moves 215 = .ok (.iload 6, 2) := dd_all DX8_moves_80_ok 19 rfl
theorem dX8_moves_217 : decode cX8_moves 217 = .ok (.istore 6, 2) := dd_all DX8_moves_80_ok 20 rfl
theorem dX8_moves_219 : decode cX8_moves 219 = .ok (.aload_n 0, 1) := dd_all DX8_moves_80_ok 21 rfl
theorem dX8_moves_220 : decode cX8_moves 220 = .ok (.iload_n 1, 1) := dd_all DX8_moves_80_ok 22 rfl
theorem dX8_moves_221 : decode cX8_moves 221 = .ok (.iconst 3, 1) := dd_all DX8_moves_80_ok 23 rfl
theorem dX8_moves_222 : decode cX8_moves 222 = .ok (.iload 6, 2) := dd_all DX8_moves_80_ok 24 rfl
theorem dX8_moves_224 : decode cX8_moves 224 = .ok (.ifCond .ne 8, 3) := dd_all DX8_moves_80_ok 25 rfl
theorem dX8_moves_227 : decode cX8_moves 227 = .ok (.bipush 6, 2) := dd_all DX8_moves_80_ok 26 rfl
theorem dX8_moves_229 : decode cX8_moves 229 = .ok (.goto 9, 3) := dd_all DX8_moves_80_ok 27 rfl
theorem dX8_moves_232 : decode cX8_moves 232 = .ok (.aload_n 0, 1) := dd_all DX8_moves_80_ok 28 rfl
theorem dX8_moves_233 : decode cX8_moves 233 = .ok (.iload_n 1, 1) := dd_all DX8_moves_80_ok 29 rfl
theorem dX8_moves_234 : decode cX8_moves 234 = .ok (.iconst 3, 1) := dd_all DX8_moves_80_ok 30 rfl
theorem dX8_moves_235 : decode cX8_moves 235 = .ok (.invokevirtual 35, 3) := dd_all DX8_moves_80_ok 31 rfl
theorem dX8_moves_238 : decode cX8_moves 238 = .ok (.invokevirtual 51, 3) := dd_all DX8_moves_80_ok 32 rfl
theorem dX8_moves_241 : decode cX8_moves 241 = .ok (.goto 3, 3) := dd_all DX8_moves_80_ok 33 rfl
theorem dX8_moves_244 : decode cX8_moves 244 = .ok (.aload_n 0, 1) := dd_all DX8_moves_80_ok 34 rfl
theorem dX8_moves_245 : decode cX8_moves 245 = .ok (.iload_n 1, 1) := dd_all DX8_moves_80_ok 35 rfl
theorem dX8_moves_246 : decode cX8_moves 246 = .ok (.iconst 4, 1) := dd_all DX8_moves_80_ok 36 rfl
theorem dX8_moves_247 : decode cX8_moves 247 = .ok (.iload 6, 2) := dd_all DX8_moves_80_ok 37 rfl
theorem dX8_moves_249 : decode cX8_moves 249 = .ok (.invokevirtual 51, 3) := dd_all DX8_moves_80_ok 38 rfl
theorem dX8_moves_252 : decode cX8_moves 252 = .ok (.return_, 1) := dd_all DX8_moves_80_ok 39 rfl
def DX8_comesIn_0 : List (Nat × Instr × Nat) := [(0, .iconst 1, 1), (1, .istore_n 1, 1), (2, .iconst 0, 1), (3, .istore_n 2, 1), (4, .iload_n 2, 1), (5, .aload_n 0, 1), (6, .getfield 7, 3), (9, .iconst 0, 1), (10, .iaload, 1), (11, .if_icmp .ge 89, 3), (14, .iload_n 1, 1), (15, .ifCond .eq 85, 3), (18, .aload_n 0, 1), (19, .iload_n 2, 1), (20, .iconst 3, 1), (21, .invokevirtual 35, 3), (24, .ifCond .ne 70, 3), (27, .aload_n 0, 1), (28, .aload_n 0, 1), (29, .iload_n 2, 1), (30, .iconst 0, 1), (31, .invokevirtual 35, 3), (34, .aload_n 0, 1), (35, .iload_n 2, 1), (36, .iconst 1, 1), (37, .invokevirtual 35, 3), (40, .invokevirtual 58, 3), (43, .istore_n 3, 1), (44, .iload_n 3, 1), (45, .ifCond .lt 25, 3), (48, .aload_n 0, 1), (49, .iload_n 2, 1), (50, .iconst 3, 1), (51, .bipush 6, 2), (53, .invokevirtual 51, 3), (56, .aload_n 0, 1), (57, .iload_n 3, 1), (58, .aload_n 0, 1), (59, .iload_n 2, 1), (60, .iconst 2, 1)]
theorem DX8_comesIn_0_ok : ∀ q ∈ DX8_comesIn_0, decode cX8_comesIn q.1 = .ok (q.2.1, q.2.2) := by decide +kernel
theorem dX8_comesIn_0 : decode cX8_comesIn 0 = .ok (.iconst 1, 1) := dd_all DX8_comesIn_0_ok 0 rfl
theorem dX8_comesIn_1 : decode cX8_comesIn 1 = .ok (.istore_n 1, 1) := dd_all DX8_comesIn_0_ok 1 rfl
theorem dX8_comesIn_2 : decode cX8_comesIn 2 = .ok (.iconst 0, 1) := dd_all DX8_comesIn_0_ok 2 rfl
theorem dX8_comesIn_3 : decode cX8_comesIn 3 = .ok (.istore_n 2, 1) := dd_all DX8_comesIn_0_ok 3 rfl
theorem dX8_comesIn_4 : decode cX8_comesIn 4 = .ok (.iload_n 2, 1) := dd_all DX8_comesIn_0_ok 4 rfl
theorem dX8_comesIn_5 : decode cX8_comesIn 5 = .ok (.aload_n 0, 1) := dd_all DX8_comesIn_0_ok 5 rfl
theorem dX8_comesIn_6 : decode cX8_comesIn 6 = .ok (.getfield 7, 3) := dd_all DX8_comesIn_0_ok 6 rfl
theorem dX8_comesIn_9 : decode cX8_comesIn 9 = .ok (.iconst 0, 1) := dd_all DX8_comesIn_0_ok 7 rfl
theorem dX8_comesIn_10 : decode cX8_comesIn 10 = .ok (.iaload, 1) := dd_all DX8_comesIn_0_ok 8 rfl
theorem dX8_comesIn_11 : decode cX8_comesIn 11 = .ok (.if_icmp .ge 89, 3) := dd_all DX8_comesIn_0_ok 9 rfl
theorem dX8_comesIn_14 : decode cX8_comesIn 14 = .ok (.iload_n 1, 1) := dd_all DX8_comesIn_0_ok 10 rfl
theorem dX8_comesIn_15 : decode cX8_comesIn 15 = .ok (.ifCond .eq 85, 3) := dd_all DX8_comesIn_0_ok 11 rfl
theorem dX8_comesIn_18 : decode cX8_comesIn 18 = .ok (.aload_n 0, 1) := dd_all DX8_comesIn_0_ok 12 rfl
theorem dX8_comesIn_19 : decode cX8_comesIn 19 = .ok (.iload_n 2, 1) := dd_all DX8_comesIn_0_ok 13 rfl
theorem dX8_comesIn_20 : decode cX8_comesIn 20 = .ok (.iconst 3, 1) := dd_all DX8_comesIn_0_ok 14 rfl
theorem dX8_comesIn_21 : decode cX8_comesIn 21 = .ok (.invokevirtual 35, 3) := dd_all DX8_comesIn_0_ok 15 rfl
theorem dX8_comesIn_24 : decode cX8_comesIn 24 = .ok (.ifCond .ne 70, 3) := dd_all DX8_comesIn_0_ok 16 rfl
theorem dX8_comesIn_27 : decode cX8_comesIn 27 = .ok (.aload_n 0, 1) := dd_all DX8_comesIn_0_ok 17 rfl
theorem dX8_comesIn_28 : decode cX8_comesIn 28 = .ok (.aload_n 0, 1) := dd_all DX8_comesIn_0_ok 18 rfl
theorem dX8_comesIn_29 : decode cX8_comesIn 29 = .ok (.iload_n 2, 1) := dd_all DX8_comesIn_0_ok 19 rfl
theorem dX8_comesIn_30 : decode cX8_comesIn 30 = .ok (.iconst 0, 1) := dd_all DX8_comesIn_0_ok 20 rfl
theorem dX8_comesIn_31 : decode cX8_comesIn 31 = .ok (.invokevirtual 35, 3) := dd_all DX8_comesIn_0_ok 21 rfl
theorem dX8_comesIn_34 : decode cX8_comesIn 34 = .ok (.aload_n 0, 1) := dd_all DX8_comesIn_0_ok 22 rfl
theorem dX8_comesIn_35 : decode cX8_comesIn 35 = .ok (.iload_n 2, 1) := dd_all DX8_comesIn_0_ok 23 rfl
theorem dX8_comesIn_36 : decode cX8_comesIn 36 = .ok (.iconst 1, 1) := dd_all DX8_comesIn_0_ok 24 rfl
theorem dX8_comesIn_37 : decode cX8_comesIn 37 = .ok (.invokevirtual 35, 3) := dd_all DX8_comesIn_0_ok 25 rfl
theorem dX8_comesIn_40 : decode cX8_comesIn 40 = .ok (.invokevirtual 58, 3) := dd_all DX8_comesIn_0_ok 26 rfl
theorem dX8_comesIn_43 : decode cX8_comesIn 43 = .ok (.istore_n 3, 1) := dd_all DX8_comesIn_0_ok 27 rfl
theorem dX8_comesIn_44 : decode cX8_comesIn 44 = .ok (.iload_n 3, 1) := dd_all DX8_comesIn_0_ok 28 rfl
theorem dX8_comesIn_45 : decode cX8_comesIn 45 = .ok (.ifCond .lt 25, 3) := dd_all DX8_comesIn_0_ok 29 rfl
theorem dX8_comesIn_48 : decode cX8_comesIn 48 = .ok (.aload_n 0, 1) := dd_all DX8_comesIn_0_ok 30 rfl
theorem dX8_comesIn_49 : decode cX8_comesIn 49 = .ok (.iload_n 2, 1) := dd_all DX8_comesIn_0_ok 31 rfl
theorem dX8_comesIn_50 : decode cX8_comesIn 50 = .ok (.iconst 3, 1) := dd_all DX8_comesIn_0_ok 32 rfl
theorem dX8_comesIn_51 : decode cX8_comesIn 51 = .ok (.bipush 6, 2) := dd_all DX8_comesIn_0_ok 33 rfl
theorem dX8_comesIn_53 : decode cX8_comesIn 53 = .ok (.invokevirtual 51, 3) := dd_all DX8_comesIn_0_ok 34 rfl
theorem dX8_comesIn_56 : decode cX8_comesIn 56 = .ok (.aload_n 0, 1) := dd_all DX8_comesIn_0_ok 35 rfl
theorem dX8_comesIn_57 : decode cX8_comesIn 57 = .ok (.iload_n 3, 1) := dd_all DX8_comesIn_0_ok 36 rfl
theorem dX8_comesIn_58 : decode cX8_comesIn 58 = .ok (.aload_n 0, 1) := dd_all DX8_comesIn_0_ok 37 rfl
theorem dX8_comesIn_59 : decode cX8_comesIn 59 = .ok (.iload_n 2, 1) := dd_all DX8_comesIn_0_ok 38 rfl
theorem dX8_comesIn_60 : decode cX8_comesIn 60 = .ok (.iconst 2, 1) := dd_all DX8_comesIn_0_ok 39 rfl
def DX8_comesIn_40 : List (Nat × Instr × Nat) := [(61, .invokevirtual 35, 3), (64, .invokevirtual 64, 3), (67, .goto 27, 3), (70, .aload_n 0, 1), (71, .invokevirtual 68, 3), (74, .aload_n 0, 1), (75, .getfield 7, 3), (78, .bipush 6, 2), (80, .iaload, 1), (81, .if_icmp .ge 11, 3), (84, .aload_n 0, 1), (85, .iload_n 2, 1), (86, .invokevirtual 75, 3), (89, .goto 5, 3), (92, .iconst 0, 1), (93, .istore_n 1, 1), (94, .iinc 2 1, 3), (97, .goto (-93), 3), (100, .return_, 1)]
theorem DX8_comesIn_40_ok : ∀ q ∈ DX8_comesIn_40, decode cX8_comesIn q.1 = .ok (q.2.1, q.2.2) := by decide +kernel
theorem dX8_comesIn_61 : decode cX8_comesIn 61 = .ok (.invokevirtual 35, 3) := dd_all DX8_comesIn_40_ok 0 rfl
theorem dX8_comesIn_64 : decode cX8_comesIn 64 = .ok (.invokevirtual 64, 3) := dd_all DX8_comesIn_40_ok 1 rfl
theorem dX8_comesIn_67 : decode cX8_comesIn 67 = .ok (.goto 27, 3) := dd_all DX8_comesIn_40_ok 2 rfl
theorem dX8_comesIn_70 : decode cX8_comesIn 70 = .ok (.aload_n 0, 1) := dd_all DX8_comesIn_40_ok 3 rfl
theorem dX8_comesIn_71 : decode cX8_comesIn 71 = .ok (.invokevirtual 68, 3) := dd_all DX8_comesIn_40_ok 4 rfl
theorem dX8_comesIn_74 : decode cX8_comesIn 74 = .ok (.aload_n 0, 1) := dd_all DX8_comesIn_40_ok 5 rfl
theorem dX8_comesIn_75 : decode cX8_comesIn 75 = .ok (.getfield 7, 3) := dd_all DX8_comesIn_40_ok 6 rfl
theorem dX8_comesIn_78 : decode cX8_comesIn 78 = .ok (.bipush 6, 2) := dd_all DX8_comesIn_40_ok 7 rfl
theorem dX8_comesIn_80 : decode cX8_comesIn 80 = .ok (.iaload, 1) := dd_all DX8_comesIn_40_ok 8 rfl
theorem dX8_comesIn_81 : decode cX8_comesIn 81 = .ok (.if_icmp .ge 11, 3) := dd_all DX8_comesIn_40_ok 9 rfl
theorem dX8_comesIn_84 : decode cX8_comesIn 84 = .ok (.aload_n 0, 1) := dd_all DX8_comesIn_40_ok 10 rfl
theorem dX8_comesIn_85 : decode cX8_comesIn 85 = .ok (.iload_n 2, 1) := dd_all DX8_comesIn_40_ok 11 rfl
theorem dX8_comesIn_86 : decode cX8_comesIn 86 = .ok (.invokevirtual 75, 3) := dd_all DX8_comesIn_40_ok 12 rfl
theorem dX8_comesIn_89 : decode cX8_comesIn 89 = .ok (.goto 5, 3) := dd_all DX8_comesIn_40_ok 13 rfl
theorem dX8_comesIn_92 : decode cX8_comesIn 92 = .ok (.iconst 0, 1) := dd_all DX8_comesIn_40_ok 14 rfl
theorem dX8_comesIn_93 : decode cX8_comesIn 93 = .ok (.istore_n 1, 1) := dd_all DX8_comesIn_40_ok 15 rfl
theorem dX8_comesIn_94 : decode cX8_comesIn 94 = .ok (.iinc 2 1, 3) := dd_all DX8_comesIn_40_ok 16 rfl
theorem dX8_comesIn_97 : decode cX8_comesIn 97 = .ok (.goto (-93), 3) := dd_all DX8_comesIn_40_ok 17 rfl
theorem dX8_comesIn_100 : decode cX8_comesIn 100 = .ok (.return_, 1) := dd_all DX8_comesIn_40_ok 18 rfl
def DX8_ticks_0 : List (Nat × Instr × Nat) := [(0, .aload_n 0, 1), (1, .getfield 7, 3), (4, .iconst 1, 1), (5, .dup2, 1), (6, .iaload, 1), (7, .iconst 1, 1), (8, .iadd, 1), (9, .iastore, 1), (10, .iconst 0, 1), (11, .istore_n 1, 1), (12, .iload_n 1, 1), (13, .aload_n 0, 1), (14, .getfield 7, 3), (17, .iconst 0, 1), (18, .iaload, 1), (19, .if_icmp .ge 14, 3), (22, .aload_n 0, 1), (23, .iload_n 1, 1), (24, .invokevirtual 100, 3), (27, .iinc 1 1, 3), (30, .goto (-18), 3), (33, .aload_n 0, 1), (34, .invokevirtual 103, 3), (37, .return_, 1)]
theorem DX8_ticks_0_ok : ∀ q ∈ DX8_ticks_0, decode cX8_ticks q.1 = .ok (q.2.1, q.2.2) := by decide +kernel
theorem dX8_ticks_0 : decode cX8_ticks 0 = .ok (.aload_n 0, 1) := dd_all DX8_ticks_0_ok 0 rfl
theorem dX8_ticks_1 : decode cX8_ticks 1 = .ok (.getfield 7, 3) := dd_all DX8_ticks_0_ok 1 rfl
theorem dX8_ticks_4 : decode cX8_ticks 4 = .ok (.iconst 1, 1) := dd_all DX8_ticks_0_ok 2 rfl
theorem dX8_ticks_5 : decode cX8_ticks 5 = .ok (.dup2, 1) := dd_all DX8_ticks_0_ok 3 rfl
theorem dX8_ticks_6 : decode cX8_ticks 6 = .ok (.iaload, 1) := dd_all DX8_ticks_0_ok 4 rfl
theorem dX8_ticks_7 : decode cX8_ticks 7 = .ok (.iconst 1, 1) := dd_all DX8_ticks_0_ok 5 rfl
theorem dX8_ticks_8 : decode cX8_ticks 8 = .ok (.iadd, 1) := dd_all DX8_ticks_0_ok 6 rfl
theorem dX8_ticks_9 : decode cX8_ticks 9 = .ok (.iastore, 1) := dd_all DX8_ticks_0_ok 7 rfl
theorem dX8_ticks_10 : decode cX8_ticks 10 = .ok (.iconst 0, 1) := dd_all DX8_ticks_0_ok 8 rfl
theorem dX8_ticks_11 : decode cX8_ticks 11 = .ok (.istore_n 1, 1) := dd_all DX8_ticks_0_ok 9 rfl
theorem dX8_ticks_12 : decode cX8_ticks 12 = .ok (.iload_n 1, 1) := dd_all DX8_ticks_0_ok 10 rfl
theorem dX8_ticks_13 : decode cX8_ticks 13 = .ok (.aload_n 0, 1) := dd_all DX8_ticks_0_ok 11 rfl
theorem dX8_ticks_14 : decode cX8_ticks 14 = .ok (.getfield 7, 3) := dd_all DX8_ticks_0_ok 12 rfl
theorem dX8_ticks_17 : decode cX8_ticks 17 = .ok (.iconst 0, 1) := dd_all DX8_ticks_0_ok 13 rfl
theorem dX8_ticks_18 : decode cX8_ticks 18 = .ok (.iaload, 1) := dd_all DX8_ticks_0_ok 14 rfl
theorem dX8_ticks_19 : decode cX8_ticks 19 = .ok (.if_icmp .ge 14, 3) := dd_all DX8_ticks_0_ok 15 rfl
theorem dX8_ticks_22 : decode cX8_ticks 22 = .ok (.aload_n 0, 1) := dd_all DX8_ticks_0_ok 16 rfl
theorem dX8_ticks_23 : decode cX8_ticks 23 = .ok (.iload_n 1, 1) := dd_all DX8_ticks_0_ok 17 rfl
theorem dX8_ticks_24 : decode cX8_ticks 24 = .ok (.invokevirtual 100, 3) := dd_all DX8_ticks_0_ok 18 rfl
theorem dX8_ticks_27 : decode cX8_ticks 27 = .ok (.iinc 1 1, 3) := dd_all DX8_ticks_0_ok 19 rfl
theorem dX8_ticks_30 : decode cX8_ticks 30 = .ok (.goto (-18), 3) := dd_all DX8_ticks_0_ok 20 rfl
theorem dX8_ticks_33 : decode cX8_ticks 33 = .ok (.aload_n 0, 1) := dd_all DX8_ticks_0_ok 21 rfl
theorem dX8_ticks_34 : decode cX8_ticks 34 = .ok (.invokevirtual 103, 3) := dd_all DX8_ticks_0_ok 22 rfl
theorem dX8_ticks_37 : decode cX8_ticks 37 = .ok (.return_, 1) := dd_all DX8_ticks_0_ok 23 rfl
def DX8_sum_0 : List (Nat × Instr × Nat) := [(0, .iconst 0, 1), (1, .istore_n 1, 1), (2, .iconst 0, 1), (3, .istore_n 2, 1), (4, .iload_n 2, 1), (5, .aload_n 0, 1), (6, .getfield 7, 3), (9, .iconst 0, 1), (10, .iaload, 1), (11, .if_icmp .ge 30, 3), (14, .iload_n 1, 1), (15, .aload_n 0, 1), (16, .iload_n 2, 1), (17, .invokevirtual 106, 3), (20, .ifCond .eq 12, 3), (23, .aload_n 0, 1), (24, .iload_n 2, 1), (25, .iconst 4, 1), (26, .invokevirtual 35, 3), (29, .goto 4, 3), (32, .iconst 0, 1), (33, .iadd, 1), (34, .istore_n 1, 1), (35, .iinc 2 1, 3), (38, .goto (-34), 3), (41, .iload_n 1, 1), (42, .ireturn, 1)]
theorem DX8_sum_0_ok : ∀ q ∈ DX8_sum_0, decode cX8_sum q.1 = .ok (q.2.1, q.2.2) := by decide +kernel
theorem dX8_sum_0 : decode cX8_sum 0 = .ok (.iconst 0, 1) := dd_all DX8_sum_0_ok 0 rfl
theorem dX8_sum_1 : decode cX8_sum 1 = .ok (.istore_n 1, 1) := dd_all DX8_sum_0_ok 1 rfl
theorem dX8_sum_2 : decode cX8_sum 2 = .ok (.iconst 0, 1) := dd_all DX8_sum_0_ok 2 rfl
theorem dX8_sum_3 : decode cX8_sum 3 = .ok (.istore_n 2, 1) := dd_all DX8_sum_0_ok 3 rfl
theorem dX8_sum_4 : decode cX8_sum 4 = .ok (.iload_n 2, 1) := dd_all DX8_sum_0_ok 4 rfl
theorem dX8_sum_5 : decode cX8_sum 5 = .ok (.aload_n 0, 1) := dd_all DX8_sum_0_ok 5 rfl
theorem dX8_sum_6 : decode cX8_sum 6 = .ok (.getfield 7, 3) := dd_all DX8_sum_0_ok 6 rfl
theorem dX8_sum_9 : decode cX8_sum 9 = .ok (.iconst 0, 1) := dd_all DX8_sum_0_ok 7 rfl
theorem dX8_sum_10 : decode cX8_sum 10 = .ok (.iaload, 1) := dd_all DX8_sum_0_ok 8 rfl
theorem dX8_sum_11 : decode cX8_sum 11 = .ok (.if_icmp .ge 30, 3) := dd_all DX8_sum_0_ok 9 rfl
theorem dX8_sum_14 : decode cX8_sum 14 = .ok (.iload_n 1, 1) := dd_all DX8_sum_0_ok 10 rfl
theorem dX8_sum_15 : decode cX8_sum 15 = .ok (.aload_n 0, 1) := dd_all DX8_sum_0_ok 11 rfl
theorem dX8_sum_16 : decode cX8_sum 16 = .ok (.iload_n 2, 1) := dd_all DX8_sum_0_ok 12 rfl
theorem dX8_sum_17 : decode cX8_sum 17 = .ok (.invokevirtual 106, 3) := dd_all DX8_sum_0_ok 13 rfl
theorem dX8_sum_20 : decode cX8_sum 20 = .ok (.ifCond .eq 12, 3) := dd_all DX8_sum_0_ok 14 rfl
theorem dX8_sum_23 : decode cX8_sum 23 = .ok (.aload_n 0, 1) := dd_all DX8_sum_0_ok 15 rfl
theorem dX8_sum_24 : decode cX8_sum 24 = .ok (.iload_n 2, 1) := dd_all DX8_sum_0_ok 16 rfl
theorem dX8_sum_25 : decode cX8_sum 25 = .ok (.iconst 4, 1) := dd_all DX8_sum_0_ok 17 rfl
theorem dX8_sum_26 : decode cX8_sum 26 = .ok (.invokevirtual 35, 3) := dd_all DX8_sum_0_ok 18 rfl
theorem dX8_sum_29 : decode cX8_sum 29 = .ok (.goto 4, 3) := dd_all DX8_sum_0_ok 19 rfl
theorem dX8_sum_32 : decode cX8_sum 32 = .ok (.iconst 0, 1) := dd_all DX8_sum_0_ok 20 rfl
theorem dX8_sum_33 : decode cX8_sum 33 = .ok (.iadd, 1) := dd_all DX8_sum_0_ok 21 rfl
theorem dX8_sum_34 : decode cX8_sum 34 = .ok (.istore_n 1, 1) := dd_all DX8_sum_0_ok 22 rfl
theorem dX8_sum_35 : decode cX8_sum 35 = .ok (.iinc 2 1, 3) := dd_all DX8_sum_0_ok 23 rfl
theorem dX8_sum_38 : decode cX8_sum 38 = .ok (.goto (-34), 3) := dd_all DX8_sum_0_ok 24 rfl
theorem dX8_sum_41 : decode cX8_sum 41 = .ok (.iload_n 1, 1) := dd_all DX8_sum_0_ok 25 rfl
theorem dX8_sum_42 : decode cX8_sum 42 = .ok (.ireturn, 1) := dd_all DX8_sum_0_ok 26 rfl
def DX8_tick_0 : List (Nat × Instr × Nat) := [(0, .iload_n 1, 1), (1, .iconst 1, 1), (2, .bipush 100, 2), (4, .invokestatic 39, 3), (7, .ifCond .ne 5, 3), (10, .iconst (-1), 1), (11, .ireturn, 1), (12, .aload_n 0, 1), (13, .getfield 7, 3), (16, .iconst 1, 1), (17, .iaload, 1), (18, .iload_n 1, 1), (19, .iadd, 1), (20, .ldc 109, 2), (22, .if_icmp .le 6, 3), (25, .bipush (-3), 2), (27, .ireturn, 1), (28, .aload_n 0, 1), (29, .invokevirtual 61, 3), (32, .iconst 0, 1), (33, .istore_n 2, 1), (34, .iload_n 2, 1), (35, .iload_n 1, 1), (36, .if_icmp .ge 13, 3), (39, .aload_n 0, 1), (40, .invokevirtual 110, 3), (43, .iinc 2 1, 3), (46, .goto (-12), 3), (49, .aload_n 0, 1), (50, .invokevirtual 113, 3), (53, .ireturn, 1)]
theorem DX8_tick_0_ok : ∀ q ∈ DX8_tick_0, decode cX8_tick q.1 = .ok (q.2.1, q.2.2) := by decide +kernel
theorem dX8_tick_0 : decode cX8_tick 0 = .ok (.iload_n 1, 1) := dd_all DX8_tick_0_ok 0 rfl
theorem dX8_tick_1 : decode cX8_tick 1 = .ok (.iconst 1, 1) := dd_all DX8_tick_0_ok 1 rfl
theorem dX8_tick_2 : decode cX8_tick 2 = .ok (.bipush 100, 2) := dd_all DX8_tick_0_ok 2 rfl
theorem dX8_tick_4 : decode cX8_tick 4 = .ok (.invokestatic 39, 3) := dd_all DX8_tick_0_ok 3 rfl
theorem dX8_tick_7 : decode cX8_tick 7 = .ok (.ifCond .ne 5, 3) := dd_all DX8_tick_0_ok 4 rfl
theorem dX8_tick_10 : decode cX8_tick 10 = .ok (.iconst (-1), 1) := dd_all DX8_tick_0_ok 5 rfl
theorem dX8_tick_11 : decode cX8_tick 11 = .ok (.ireturn, 1) := dd_all DX8_tick_0_ok 6 rfl
theorem dX8_tick_12 : decode cX8_tick 12 = .ok (.aload_n 0, 1) := dd_all DX8_tick_0_ok 7 rfl
theorem dX8_tick_13 : decode cX8_tick 13 = .ok (.getfield 7, 3) := dd_all DX8_tick_0_ok 8 rfl
theorem dX8_tick_16 : decode cX8_tick 16 = .ok (.iconst 1, 1) := dd_all DX8_tick_0_ok 9 rfl
theorem dX8_tick_17 : decode cX8_tick 17 = .ok (.iaload, 1) := dd_all DX8_tick_0_ok 10 rfl
theorem dX8_tick_18 : decode cX8_tick 18 = .ok (.iload_n 1, 1) := dd_all DX8_tick_0_ok 11 rfl
theorem dX8_tick_19 : decode cX8_tick 19 = .ok (.iadd, 1) := dd_all DX8_tick_0_ok 12 rfl
theorem dX8_tick_20 : decode cX8_tick 20 = .ok (.ldc 109, 2) := dd_all DX8_tick_0_ok 13 rfl
theorem dX8_tick_22 : decode cX8_tick 22 = .ok (.if_icmp .le 6, 3) := dd_all DX8_tick_0_ok 14 rfl
theorem dX8_tick_25 : decode cX8_tick 25 = .ok (.bipush (-3), 2) := dd_all DX8_tick_0_ok 15 rfl
theorem dX8_tick_27 : decode cX8_tick 27 = .ok (.ireturn, 1) := dd_all DX8_tick_0_ok 16 rfl
theorem dX8_tick_28 : decode cX8_tick 28 = .ok (.aload_n 0, 1) := dd_all DX8_tick_0_ok 17 rfl
theorem dX8_tick_29 : decode cX8_tick 29 = .ok (.invokevirtual 61, 3) := dd_all DX8_tick_0_ok 18 rfl
theorem dX8_tick_32 : decode cX8_tick 32 = .ok (.iconst 0, 1) := dd_all DX8_tick_0_ok 19 rfl
theorem dX8_tick_33 : decode cX8_tick 33 = .ok (.istore_n 2, 1) := dd_all DX8_tick_0_ok 20 rfl
theorem dX8_tick_34 : decode cX8_tick 34 = .ok (.iload_n 2, 1) := dd_all DX8_tick_0_ok 21 rfl
theorem dX8_tick_35 : decode cX8_tick 35 = .ok (.iload_n 1, 1) := dd_all DX8_tick_0_ok 22 rfl
theorem dX8_tick_36 : decode cX8_tick 36 = .ok (.if_icmp .ge 13, 3) := dd_all DX8_tick_0_ok 23 rfl
theorem dX8_tick_39 : decode cX8_tick 39 = .ok (.aload_n 0, 1) := dd_all DX8_tick_0_ok 24 rfl
theorem dX8_tick_40 : decode cX8_tick 40 = .ok (.invokevirtual 110, 3) := dd_all DX8_tick_0_ok 25 rfl
theorem dX8_tick_43 : decode cX8_tick 43 = .ok (.iinc 2 1, 3) := dd_all DX8_tick_0_ok 26 rfl
theorem dX8_tick_46 : decode cX8_tick 46 = .ok (.goto (-12), 3) := dd_all DX8_tick_0_ok 27 rfl
theorem dX8_tick_49 : decode cX8_tick 49 = .ok (.aload_n 0, 1) := dd_all DX8_tick_0_ok 28 rfl
theorem dX8_tick_50 : decode cX8_tick 50 = .ok (.invokevirtual 113, 3) := dd_all DX8_tick_0_ok 29 rfl
theorem dX8_tick_53 : decode cX8_tick 53 = .ok (.ireturn, 1) := dd_all DX8_tick_0_ok 30 rfl
def DX8_set_0 : List (Nat × Instr × Nat) := [(0, .iload_n 1, 1), (1, .ifCond .ne 13, 3), (4, .iload_n 2, 1), (5, .iconst 1, 1), (6, .bipush 8, 2), (8, .invokestatic 39, 3), (11, .goto 39, 3), (14, .iload_n 1, 1), (15, .iconst 1, 1), (16, .if_icmp .ne 12, 3), (19, .iload_n 2, 1), (20, .iconst 0, 1), (21, .iconst 2, 1), (22, .invokestatic 39, 3), (25, .goto 25, 3), (28, .iload_n 1, 1), (29, .iconst 2, 1), (30, .if_icmp .ne 19, 3), (33, .iload_n 2, 1), (34, .bipush 100, 2), (36, .sipush 8000, 3), (39, .invokestatic 39, 3), (42, .ifCond .eq 7, 3), (45, .iconst 1, 1), (46, .goto 4, 3), (49, .iconst 0, 1), (50, .istore_n 3, 1), (51, .iload_n 3, 1), (52, .ifCond .ne 5, 3), (55, .iconst (-1), 1), (56, .ireturn, 1), (57, .aload_n 0, 1), (58, .invokevirtual 61, 3), (61, .aload_n 0, 1), (62, .getfield 7, 3), (65, .bipush 6, 2), (67, .iload_n 1, 1), (68, .iadd, 1), (69, .iaload, 1), (70, .istore 4, 2)]
theorem DX8_set_0_ok : ∀ q ∈ DX8_set_0, decode cX8_set q.1 = .ok (q.2.1, q.2.2) := by decide +kernel
theorem dX8_set_0 : decode cX8_set 0 = .ok (.iload_n 1, 1) := dd_all DX8_set_0_ok 0 rfl
theorem dX8_set_1 : decode cX8_set 1 = .ok (.ifCond .ne 13, 3) := dd_all DX8_set_0_ok 1 rfl
theorem dX8_set_4 : decode cX8_set 4 = .ok (.iload_n 2, 1) := dd_all DX8_set_0_ok 2 rfl
theorem dX8_set_5 : decode cX8_set 5 = .ok (.iconst 1, 1) := dd_all DX8_set_0_ok 3 rfl
theorem dX8_set_6 : decode cX8_set 6 = .ok (.bipush 8, 2) := dd_all DX8_set_0_ok 4 rfl
theorem dX8_set_8 : decode cX8_set 8 = .ok (.invokestatic 39, 3) := dd_all DX8_set_0_ok 5 rfl
theorem dX8_set_11 : decode cX8_set 11 = .ok (.goto 39, 3) := dd_all DX8_set_0_ok 6 rfl
theorem dX8_set_14 : decode cX8_set 14 = .ok (.iload_n 1, 1) := dd_all DX8_set_0_ok 7 rfl
theorem dX8_set_15 : decode cX8_set 15 = .ok (.iconst 1, 1) := dd_all DX8_set_0_ok 8 rfl
theorem dX8_set_16 : decode cX8_set 16 = .ok (.if_icmp .ne 12, 3) := dd_all DX8_set_0_ok 9 rfl
theorem dX8_set_19 : decode cX8_set 19 = .ok (.iload_n 2, 1) := dd_all DX8_set_0_ok 10 rfl
theorem dX8_set_20 : decode cX8_set 20 = .ok (.iconst 0, 1) := dd_all DX8_set_0_ok 11 rfl
theorem dX8_set_21 : decode cX8_set 21 = .ok (.iconst 2, 1) := dd_all DX8_set_0_ok 12 rfl
theorem dX8_set_22 : decode cX8_set 22 = .ok (.invokestatic 39, 3) := dd_all DX8_set_0_ok 13 rfl
theorem dX8_set_25 : decode cX8_set 25 = .ok (.goto 25, 3) := dd_all DX8_set_0_ok 14 rfl
theorem dX8_set_28 : decode cX8_set 28 = .ok (.iload_n 1, 1) := dd_all DX8_set_0_ok 15 rfl
theorem dX8_set_29 : decode cX8_set 29 = .ok (.iconst 2, 1) := dd_all DX8_set_0_ok 16 rfl
theorem dX8_set_30 : decode cX8_set 30 = .ok (.if_icmp .ne 19, 3) := dd_all DX8_set_0_ok 17 rfl
theorem dX8_set_33 : decode cX8_set 33 = .ok (.iload_n 2, 1) := dd_all DX8_set_0_ok 18 rfl
theorem dX8_set_34 : decode cX8_set 34 = .ok (.bipush 100, 2) := dd_all DX8_set_0_ok 19 rfl
theorem dX8_set_36 : decode cX8_set 36 = .ok (.sipush 8000, 3) := dd_all DX8_set_0_ok 20 rfl
theorem dX8_set_39 : decode cX8_set 39 = .ok (.invokestatic 39, 3) := dd_all DX8_set_0_ok 21 rfl
theorem dX8_set_42 : decode cX8_set 42 = .ok (.ifCond .eq 7, 3) := dd_all DX8_set_0_ok 22 rfl
theorem dX8_set_45 : decode cX8_set 45 = .ok (.iconst 1, 1) := dd_all DX8_set_0_ok 23 rfl
theorem dX8_set_46 : decode cX8_set 46 = .ok (.goto 4, 3) := dd_all DX8_set_0_ok 24 rfl
theorem dX8_set_49 : decode cX8_set 49 = .ok (.iconst 0, 1) := dd_all DX8_set_0_ok 25 rfl
theorem dX8_set_50 : decode cX8_set 50 = .ok (.istore_n 3, 1) := dd_all DX8_set_0_ok 26 rfl
theorem dX8_set_51 : decode cX8_set 51 = .ok (.iload_n 3, 1) := dd_all DX8_set_0_ok 27 rfl
theorem dX8_set_52 : decode cX8_set 52 = .ok (.ifCond .ne 5, 3) := dd_all DX8_set_0_ok 28 rfl
theorem dX8_set_55 : decode cX8_set 55 = .ok (.iconst (-1), 1) := dd_all DX8_set_0_ok 29 rfl
theorem dX8_set_56 : decode cX8_set 56 = .ok (.ireturn, 1) := dd_all DX8_set_0_ok 30 rfl
theorem dX8_set_57 : decode cX8_set 57 = .ok (.aload_n 0, 1) := dd_all DX8_set_0_ok 31 rfl
theorem dX8_set_58 : decode cX8_set 58 = .ok (.invokevirtual 61, 3) := dd_all DX8_set_0_ok 32 rfl
theorem dX8_set_61 : decode cX8_set 61 = .ok (.aload_n 0, 1) := dd_all DX8_set_0_ok 33 rfl
theorem dX8_set_62 : decode cX8_set 62 = .ok (.getfield 7, 3) := dd_all DX8_set_0_ok 34 rfl
theorem dX8_set_65 : decode cX8_set 65 = .ok (.bipush 6, 2) := dd_all DX8_set_0_ok 35 rfl
theorem dX8_set_67 : decode cX8_set 67 = .ok (.iload_n 1, 1) := dd_all DX8_set_0_ok 36 rfl
theorem dX8_set_68 : decode cX8_set 68 = .ok (.iadd, 1) := dd_all DX8_set_0_ok 37 rfl
theorem dX8_set_69 : decode cX8_set 69 = .ok (.iaload, 1) := dd_all DX8_set_0_ok 38 rfl
theorem dX8_set_70 : decode cX8_set 70 = .ok (.istore 4, 2) := dd_all DX8_set_0_ok 39 rfl
def DX8_set_40 : List (Nat × Instr × Nat) := [(72, .aload_n 0, 1), (73, .getfield 7, 3), (76, .bipush 6, 2), (78, .iload_n 1, 1), (79, .iadd, 1), (80, .iload_n 2, 1), (81, .iastore, 1), (82, .iload 4, 2), (84, .ireturn, 1)]
theorem DX8_set_40_ok : ∀ q ∈ DX8_set_40, decode cX8_set q.1 = .ok (q.2.1, q.2.2) := by decide +kernel
theorem dX8_set_72 : decode cX8_set 72 = .ok (.aload_n 0, 1) := dd_all DX8_set_40_ok 0 rfl
theorem dX8_set_73 : decode cX8_set 73 = .ok (.getfield 7, 3) := dd_all DX8_set_40_ok 1 rfl
theorem dX8_set_76 : decode cX8_set 76 = .ok (.bipush 6, 2) := dd_all DX8_set_40_ok 2 rfl
theorem dX8_set_78 : decode cX8_set 78 = .ok (.iload_n 1, 1) := dd_all DX8_set_40_ok 3 rfl
theorem dX8_set_79 : decode cX8_set 79 = .ok (.iadd, 1) := dd_all DX8_set_40_ok 4 rfl
theorem dX8_set_80 : decode cX8_set 80 = .ok (.iload_n 2, 1) := dd_all DX8_set_40_ok 5 rfl
theorem dX8_set_81 : decode cX8_set 81 = .ok (.iastore, 1) := dd_all DX8_set_40_ok 6 rfl
theorem dX8_set_82 : decode cX8_set 82 = .ok (.iload 4, 2) := dd_all DX8_set_40_ok 7 rfl
theorem dX8_set_84 : decode cX8_set 84 = .ok (.ireturn, 1) := dd_all DX8_set_40_ok 8 rfl
def DX8_heard_0 : List (Nat × Instr × Nat) := [(0, .aload_n 0, 1), (1, .invokevirtual 113, 3), (4, .istore_n 2, 1), (5, .iload_n 2, 1), (6, .aload_n 0, 1), (7, .getfield 7, 3), (10, .bipush 8, 2), (12, .iaload, 1), (13, .if_icmp .gt 12, 3), (16, .aload_n 0, 1), (17, .iload_n 1, 1), (18, .iconst 4, 1), (19, .invokevirtual 35, 3), (22, .goto 19, 3), (25, .aload_n 0, 1), (26, .iload_n 1, 1), (27, .iconst 4, 1), (28, .invokevirtual 35, 3), (31, .aload_n 0, 1), (32, .getfield 7, 3), (35, .bipush 8, 2), (37, .iaload, 1), (38, .imul, 1), (39, .iload_n 2, 1), (40, .idiv, 1), (41, .ireturn, 1)]
theorem DX8_heard_0_ok : ∀ q ∈ DX8_heard_0, decode cX8_heard q.1 = .ok (q.2.1, q.2.2) := by decide +kernel
theorem dX8_heard_0 : decode cX8_heard 0 = .ok (.aload_n 0, 1) := dd_all DX8_heard_0_ok 0 rfl
theorem dX8_heard_1 : decode cX8_heard 1 = .ok (.invokevirtual 113, 3) := dd_all DX8_heard_0_ok 1 rfl
theorem dX8_heard_4 : decode cX8_heard 4 = .ok (.istore_n 2, 1) := dd_all DX8_heard_0_ok 2 rfl
theorem dX8_heard_5 : decode cX8_heard 5 = .ok (.iload_n 2, 1) := dd_all DX8_heard_0_ok 3 rfl
theorem dX8_heard_6 : decode cX8_heard 6 = .ok (.aload_n 0, 1) := dd_all DX8_heard_0_ok 4 rfl
theorem dX8_heard_7 : decode cX8_heard 7 = .ok (.getfield 7, 3) := dd_all DX8_heard_0_ok 5 rfl
theorem dX8_heard_10 : decode cX8_heard 10 = .ok (.bipush 8, 2) := dd_all DX8_heard_0_ok 6 rfl
theorem dX8_heard_12 : decode cX8_heard 12 = .ok (.iaload, 1) := dd_all DX8_heard_0_ok 7 rfl
theorem dX8_heard_13 : decode cX8_heard 13 = .ok (.if_icmp .gt 12, 3) := dd_all DX8_heard_0_ok 8 rfl
theorem dX8_heard_16 : decode cX8_heard 16 = .ok (.aload_n 0, 1) := dd_all DX8_heard_0_ok 9 rfl
theorem dX8_heard_17 : decode cX8_heard 17 = .ok (.iload_n 1, 1) := dd_all DX8_heard_0_ok 10 rfl
theorem dX8_heard_18 : decode cX8_heard 18 = .ok (.iconst 4, 1) := dd_all DX8_heard_0_ok 11 rfl
theorem dX8_heard_19 : decode cX8_heard 19 = .ok (.invokevirtual 35, 3) := dd_all DX8_heard_0_ok 12 rfl
theorem dX8_heard_22 : decode cX8_heard 22 = .ok (.goto 19, 3) := dd_all DX8_heard_0_ok 13 rfl
theorem dX8_heard_25 : decode cX8_heard 25 = .ok (.aload_n 0, 1) := dd_all DX8_heard_0_ok 14 rfl
theorem dX8_heard_26 : decode cX8_heard 26 = .ok (.iload_n 1, 1) := dd_all DX8_heard_0_ok 15 rfl
theorem dX8_heard_27 : decode cX8_heard 27 = .ok (.iconst 4, 1) := dd_all DX8_heard_0_ok 16 rfl
theorem dX8_heard_28 : decode cX8_heard 28 = .ok (.invokevirtual 35, 3) := dd_all DX8_heard_0_ok 17 rfl
theorem dX8_heard_31 : decode cX8_heard 31 = .ok (.aload_n 0, 1) := dd_all DX8_heard_0_ok 18 rfl
theorem dX8_heard_32 : decode cX8_heard 32 = .ok (.getfield 7, 3) := dd_all DX8_heard_0_ok 19 rfl
theorem dX8_heard_35 : decode cX8_heard 35 = .ok (.bipush 8, 2) := dd_all DX8_heard_0_ok 20 rfl
theorem dX8_heard_37 : decode cX8_heard 37 = .ok (.iaload, 1) := dd_all DX8_heard_0_ok 21 rfl
theorem dX8_heard_38 : decode cX8_heard 38 = .ok (.imul, 1) := dd_all DX8_heard_0_ok 22 rfl
theorem dX8_heard_39 : decode cX8_heard 39 = .ok (.iload_n 2, 1) := dd_all DX8_heard_0_ok 23 rfl
theorem dX8_heard_40 : decode cX8_heard 40 = .ok (.idiv, 1) := dd_all DX8_heard_0_ok 24 rfl
theorem dX8_heard_41 : decode cX8_heard 41 = .ok (.ireturn, 1) := dd_all DX8_heard_0_ok 25 rfl
def DX8_ahead_0 : List (Nat × Instr × Nat) := [(0, .iconst 0, 1), (1, .istore_n 2, 1), (2, .iconst 0, 1), (3, .istore_n 3, 1), (4, .iload_n 3, 1), (5, .iload_n 1, 1), (6, .if_icmp .ge 26, 3), (9, .iload_n 2, 1), (10, .aload_n 0, 1), (11, .iload_n 3, 1), (12, .iconst 3, 1), (13, .invokevirtual 35, 3), (16, .ifCond .ne 7, 3), (19, .iconst 1, 1), (20, .goto 4, 3), (23, .iconst 0, 1), (24, .iadd, 1), (25, .istore_n 2, 1), (26, .iinc 3 1, 3), (29, .goto (-25), 3), (32, .iload_n 2, 1), (33, .ireturn, 1)]
theorem DX8_ahead_0_ok : ∀ q ∈ DX8_ahead_0, decode cX8_ahead q.1 = .ok (q.2.1, q.2.2) := by decide +kernel
theorem dX8_ahead_0 : decode cX8_ahead 0 = .ok (.iconst 0, 1) := dd_all DX8_ahead_0_ok 0 rfl
theorem dX8_ahead_1 : decode cX8_ahead 1 = .ok (.istore_n 2, 1) := dd_all DX8_ahead_0_ok 1 rfl
theorem dX8_ahead_2 : decode cX8_ahead 2 = .ok (.iconst 0, 1) := dd_all DX8_ahead_0_ok 2 rfl
theorem dX8_ahead_3 : decode cX8_ahead 3 = .ok (.istore_n 3, 1) := dd_all DX8_ahead_0_ok 3 rfl
theorem dX8_ahead_4 : decode cX8_ahead 4 = .ok (.iload_n 3, 1) := dd_all DX8_ahead_0_ok 4 rfl
theorem dX8_ahead_5 : decode cX8_ahead 5 = .ok (.iload_n 1, 1) := dd_all DX8_ahead_0_ok 5 rfl
theorem dX8_ahead_6 : decode cX8_ahead 6 = .ok (.if_icmp .ge 26, 3) := dd_all DX8_ahead_0_ok 6 rfl
theorem dX8_ahead_9 : decode cX8_ahead 9 = .ok (.iload_n 2, 1) := dd_all DX8_ahead_0_ok 7 rfl
theorem dX8_ahead_10 : decode cX8_ahead 10 = .ok (.aload_n 0, 1) := dd_all DX8_ahead_0_ok 8 rfl
theorem dX8_ahead_11 : decode cX8_ahead 11 = .ok (.iload_n 3, 1) := dd_all DX8_ahead_0_ok 9 rfl
theorem dX8_ahead_12 : decode cX8_ahead 12 = .ok (.iconst 3, 1) := dd_all DX8_ahead_0_ok 10 rfl
theorem dX8_ahead_13 : decode cX8_ahead 13 = .ok (.invokevirtual 35, 3) := dd_all DX8_ahead_0_ok 11 rfl
theorem dX8_ahead_16 : decode cX8_ahead 16 = .ok (.ifCond .ne 7, 3) := dd_all DX8_ahead_0_ok 12 rfl
theorem dX8_ahead_19 : decode cX8_ahead 19 = .ok (.iconst 1, 1) := dd_all DX8_ahead_0_ok 13 rfl
theorem dX8_ahead_20 : decode cX8_ahead 20 = .ok (.goto 4, 3) := dd_all DX8_ahead_0_ok 14 rfl
theorem dX8_ahead_23 : decode cX8_ahead 23 = .ok (.iconst 0, 1) := dd_all DX8_ahead_0_ok 15 rfl
theorem dX8_ahead_24 : decode cX8_ahead 24 = .ok (.iadd, 1) := dd_all DX8_ahead_0_ok 16 rfl
theorem dX8_ahead_25 : decode cX8_ahead 25 = .ok (.istore_n 2, 1) := dd_all DX8_ahead_0_ok 17 rfl
theorem dX8_ahead_26 : decode cX8_ahead 26 = .ok (.iinc 3 1, 3) := dd_all DX8_ahead_0_ok 18 rfl
theorem dX8_ahead_29 : decode cX8_ahead 29 = .ok (.goto (-25), 3) := dd_all DX8_ahead_0_ok 19 rfl
theorem dX8_ahead_32 : decode cX8_ahead 32 = .ok (.iload_n 2, 1) := dd_all DX8_ahead_0_ok 20 rfl
theorem dX8_ahead_33 : decode cX8_ahead 33 = .ok (.ireturn, 1) := dd_all DX8_ahead_0_ok 21 rfl
def DX8_noteOf_0 : List (Nat × Instr × Nat) := [(0, .aload_n 0, 1), (1, .iload_n 1, 1), (2, .invokevirtual 116, 3), (5, .ifCond .ne 5, 3), (8, .iconst (-1), 1), (9, .ireturn, 1), (10, .iload_n 2, 1), (11, .tableswitch 119 0 7 #[45, 45, 45, 45, 52, 72, 91, 99], 45), (56, .aload_n 0, 1), (57, .iload_n 1, 1), (58, .iload_n 2, 1), (59, .invokevirtual 35, 3), (62, .ireturn, 1), (63, .aload_n 0, 1), (64, .iload_n 1, 1), (65, .invokevirtual 106, 3), (68, .ifCond .eq 12, 3), (71, .aload_n 0, 1), (72, .iload_n 1, 1), (73, .iconst 4, 1), (74, .invokevirtual 35, 3), (77, .goto 5, 3), (80, .bipush (-4), 2), (82, .ireturn, 1), (83, .aload_n 0, 1), (84, .iload_n 1, 1), (85, .invokevirtual 106, 3), (88, .ifCond .eq 11, 3), (91, .aload_n 0, 1), (92, .iload_n 1, 1), (93, .invokevirtual 119, 3), (96, .goto 5, 3), (99, .bipush (-4), 2), (101, .ireturn, 1), (102, .aload_n 0, 1), (103, .iload_n 1, 1), (104, .bipush 6, 2), (106, .invokevirtual 35, 3), (109, .ireturn, 1), (110, .aload_n 0, 1)]
theorem DX8_noteOf_0_ok : ∀ q ∈ DX8_noteOf_0, decode cX8_noteOf q.1 = .ok (q.2.1, q.2.2) := by decide +kernel
theorem dX8_noteOf_0 : decode cX8_noteOf 0 = .ok (.aload_n 0, 1) := dd_all DX8_noteOf_0_ok 0 rfl
theorem dX8_noteOf_1 : decode cX8_noteOf 1 = .ok (.iload_n 1, 1) := dd_all DX8_noteOf_0_ok 1 rfl
theorem dX8_noteOf_2 : decode cX8_noteOf 2 = .ok (.invokevirtual 116, 3) := dd_all DX8_noteOf_0_ok 2 rfl
theorem dX8_noteOf_5 : decode cX8_noteOf 5 = .ok (.ifCond .ne 5, 3) := dd_all DX8_noteOf_0_ok 3 rfl
theorem dX8_noteOf_8 : decode cX8_noteOf 8 = .ok (.iconst (-1), 1) := dd_all DX8_noteOf_0_ok 4 rfl
theorem dX8_noteOf_9 : decode cX8_noteOf 9 = .ok (.ireturn, 1) := dd_all DX8_noteOf_0_ok 5 rfl
theorem dX8_noteOf_10 : decode cX8_noteOf 10 = .ok (.iload_n 2, 1) := dd_all DX8_noteOf_0_ok 6 rfl
theorem dX8_noteOf_11 : decode cX8_noteOf 11 = .ok (.tableswitch 119 0 7 #[45, 45, 45, 45, 52, 72, 91, 99], 45) := dd_all DX8_noteOf_0_ok 7 rfl
theorem dX8_noteOf_56 : decode cX8_noteOf 56 = .ok (.aload_n 0, 1) := dd_all DX8_noteOf_0_ok 8 rfl
theorem dX8_noteOf_57 : decode cX8_noteOf 57 = .ok (.iload_n 1, 1) := dd_all DX8_noteOf_0_ok 9 rfl
theorem dX8_noteOf_58 : decode cX8_noteOf 58 = .ok (.iload_n 2, 1) := dd_all DX8_noteOf_0_ok 10 rfl
theorem dX8_noteOf_59 : decode cX8_noteOf 59 = .ok (.invokevirtual 35, 3) := dd_all DX8_noteOf_0_ok 11 rfl
theorem dX8_noteOf_62 : decode cX8_noteOf 62 = .ok (.ireturn, 1) := dd_all DX8_noteOf_0_ok 12 rfl
theorem dX8_noteOf_63 : decode cX8_noteOf 63 = .ok (.aload_n 0, 1) := dd_all DX8_noteOf_0_ok 13 rfl
theorem dX8_noteOf_64 : decode cX8_noteOf 64 = .ok (.iload_n 1, 1) := dd_all DX8_noteOf_0_ok 14 rfl
theorem dX8_noteOf_65 : decode cX8_noteOf 65 = .ok (.invokevirtual 106, 3) := dd_all DX8_noteOf_0_ok 15 rfl
theorem dX8_noteOf_68 : decode cX8_noteOf 68 = .ok (.ifCond .eq 12, 3) := dd_all DX8_noteOf_0_ok 16 rfl
theorem dX8_noteOf_71 : decode cX8_noteOf 71 = .ok (.aload_n 0, 1) := dd_all DX8_noteOf_0_ok 17 rfl
theorem dX8_noteOf_72 : decode cX8_noteOf 72 = .ok (.iload_n 1, 1) := dd_all DX8_noteOf_0_ok 18 rfl
theorem dX8_noteOf_73 : decode cX8_noteOf 73 = .ok (.iconst 4, 1) := dd_all DX8_noteOf_0_ok 19 rfl
theorem dX8_noteOf_74 : decode cX8_noteOf 74 = .ok (.invokevirtual 35, 3) := dd_all DX8_noteOf_0_ok 20 rfl
theorem dX8_noteOf_77 : decode cX8_noteOf 77 = .ok (.goto 5, 3) := dd_all DX8_noteOf_0_ok 21 rfl
theorem dX8_noteOf_80 : decode cX8_noteOf 80 = .ok (.bipush (-4), 2) := dd_all DX8_noteOf_0_ok 22 rfl
theorem dX8_noteOf_82 : decode cX8_noteOf 82 = .ok (.ireturn, 1) := dd_all DX8_noteOf_0_ok 23 rfl
theorem dX8_noteOf_83 : decode cX8_noteOf 83 = .ok (.aload_n 0, 1) := dd_all DX8_noteOf_0_ok 24 rfl
theorem dX8_noteOf_84 : decode cX8_noteOf 84 = .ok (.iload_n 1, 1) := dd_all DX8_noteOf_0_ok 25 rfl
theorem dX8_noteOf_85 : decode cX8_noteOf 85 = .ok (.invokevirtual 106, 3) := dd_all DX8_noteOf_0_ok 26 rfl
theorem dX8_noteOf_88 : decode cX8_noteOf 88 = .ok (.ifCond .eq 11, 3) := dd_all DX8_noteOf_0_ok 27 rfl
theorem dX8_noteOf_91 : decode cX8_noteOf 91 = .ok (.aload_n 0, 1) := dd_all DX8_noteOf_0_ok 28 rfl
theorem dX8_noteOf_92 : decode cX8_noteOf 92 = .ok (.iload_n 1, 1) := dd_all DX8_noteOf_0_ok 29 rfl
theorem dX8_noteOf_93 : decode cX8_noteOf 93 = .ok (.invokevirtual 119, 3) := dd_all DX8_noteOf_0_ok 30 rfl
theorem dX8_noteOf_96 : decode cX8_noteOf 96 = .ok (.goto 5, 3) := dd_all DX8_noteOf_0_ok 31 rfl
theorem dX8_noteOf_99 : decode cX8_noteOf 99 = .ok (.bipush (-4), 2) := dd_all DX8_noteOf_0_ok 32 rfl
theorem dX8_noteOf_101 : decode cX8_noteOf 101 = .ok (.ireturn, 1) := dd_all DX8_noteOf_0_ok 33 rfl
theorem dX8_noteOf_102 : decode cX8_noteOf 102 = .ok (.aload_n 0, 1) := dd_all DX8_noteOf_0_ok 34 rfl
theorem dX8_noteOf_103 : decode cX8_noteOf 103 = .ok (.iload_n 1, 1) := dd_all DX8_noteOf_0_ok 35 rfl
theorem dX8_noteOf_104 : decode cX8_noteOf 104 = .ok (.bipush 6, 2) := dd_all DX8_noteOf_0_ok 36 rfl
theorem dX8_noteOf_106 : decode cX8_noteOf 106 = .ok (.invokevirtual 35, 3) := dd_all DX8_noteOf_0_ok 37 rfl
theorem dX8_noteOf_109 : decode cX8_noteOf 109 = .ok (.ireturn, 1) := dd_all DX8_noteOf_0_ok 38 rfl
theorem dX8_noteOf_110 : decode cX8_noteOf 110 = .ok (.aload_n 0, 1) := dd_all DX8_noteOf_0_ok 39 rfl
def DX8_noteOf_40 : List (Nat × Instr × Nat) := [(111, .iload_n 1, 1), (112, .iconst 3, 1), (113, .invokevirtual 35, 3), (116, .ifCond .ne 11, 3), (119, .aload_n 0, 1), (120, .iload_n 1, 1), (121, .invokevirtual 122, 3), (124, .goto 5, 3), (127, .bipush (-4), 2), (129, .ireturn, 1), (130, .iconst (-1), 1), (131, .ireturn, 1)]
theorem DX8_noteOf_40_ok : ∀ q ∈ DX8_noteOf_40, decode cX8_noteOf q.1 = .ok (q.2.1, q.2.2) := by decide +kernel
theorem dX8_noteOf_111 : decode cX8_noteOf 111 = .ok (.iload_n 1, 1) := dd_all DX8_noteOf_40_ok 0 rfl
theorem dX8_noteOf_112 : decode cX8_noteOf 112 = .ok (.iconst 3, 1) := dd_all DX8_noteOf_40_ok 1 rfl
theorem dX8_noteOf_113 : decode cX8_noteOf 113 = .ok (.invokevirtual 35, 3) := dd_all DX8_noteOf_40_ok 2 rfl
theorem dX8_noteOf_116 : decode cX8_noteOf 116 = .ok (.ifCond .ne 11, 3) := dd_all DX8_noteOf_40_ok 3 rfl
theorem dX8_noteOf_119 : decode cX8_noteOf 119 = .ok (.aload_n 0, 1) := dd_all DX8_noteOf_40_ok 4 rfl
theorem dX8_noteOf_120 : decode cX8_noteOf 120 = .ok (.iload_n 1, 1) := dd_all DX8_noteOf_40_ok 5 rfl
theorem dX8_noteOf_121 : decode cX8_noteOf 121 = .ok (.invokevirtual 122, 3) := dd_all DX8_noteOf_40_ok 6 rfl
theorem dX8_noteOf_124 : decode cX8_noteOf 124 = .ok (.goto 5, 3) := dd_all DX8_noteOf_40_ok 7 rfl
theorem dX8_noteOf_127 : decode cX8_noteOf 127 = .ok (.bipush (-4), 2) := dd_all DX8_noteOf_40_ok 8 rfl
theorem dX8_noteOf_129 : decode cX8_noteOf 129 = .ok (.ireturn, 1) := dd_all DX8_noteOf_40_ok 9 rfl
theorem dX8_noteOf_130 : decode cX8_noteOf 130 = .ok (.iconst (-1), 1) := dd_all DX8_noteOf_40_ok 10 rfl
theorem dX8_noteOf_131 : decode cX8_noteOf 131 = .ok (.ireturn, 1) := dd_all DX8_noteOf_40_ok 11 rfl
def DX8_voiceAt_0 : List (Nat × Instr × Nat) := [(0, .iload_n 1, 1), (1, .ifCond .ge 5, 3), (4, .iconst (-1), 1), (5, .ireturn, 1), (6, .bipush (-4), 2), (8, .istore_n 2, 1), (9, .iconst 0, 1), (10, .istore_n 3, 1), (11, .iload_n 3, 1), (12, .aload_n 0, 1), (13, .getfield 7, 3), (16, .iconst 0, 1), (17, .iaload, 1), (18, .if_icmp .ge 97, 3), (21, .iconst 0, 1), (22, .istore 4, 2), (24, .iconst 0, 1), (25, .istore 5, 2), (27, .iload 5, 2), (29, .aload_n 0, 1), (30, .getfield 7, 3), (33, .iconst 0, 1), (34, .iaload, 1), (35, .if_icmp .ge 54, 3), (38, .aload_n 0, 1), (39, .iload_n 3, 1), (40, .invokevirtual 47, 3), (43, .ifCond .eq 46, 3), (46, .iload 4, 2), (48, .aload_n 0, 1), (49, .iload 5, 2), (51, .invokevirtual 47, 3), (54, .ifCond .eq 25, 3), (57, .aload_n 0, 1), (58, .iload 5, 2), (60, .bipush 7, 2), (62, .invokevirtual 35, 3), (65, .aload_n 0, 1), (66, .iload_n 3, 1), (67, .bipush 7, 2)]
theorem DX8_voiceAt_0_ok : ∀ q ∈ DX8_voiceAt_0, decode cX8_voiceAt q.1 = .ok (q.2.1, q.2.2) := by decide +kernel
theorem dX8_voiceAt_0 : decode cX8_voiceAt 0 = .ok (.iload_n 1, 1) := dd_all DX8_voiceAt_0_ok 0 rfl
theorem dX8_voiceAt_1 : decode cX8_voiceAt 1 = .ok (.ifCond .ge 5, 3) := dd_all DX8_voiceAt_0_ok 1 rfl
theorem dX8_voiceAt_4 : decode cX8_voiceAt 4 = .ok (.iconst (-1), 1) := dd_all DX8_voiceAt_0_ok 2 rfl
theorem dX8_voiceAt_5 : decode cX8_voiceAt 5 = .ok (.ireturn, 1) := dd_all DX8_voiceAt_0_ok 3 rfl
theorem dX8_voiceAt_6 : decode cX8_voiceAt 6 = .ok (.bipush (-4), 2) := dd_all DX8_voiceAt_0_ok 4 rfl
theorem dX8_voiceAt_8 : decode cX8_voiceAt 8 = .ok (.istore_n 2, 1) := dd_all DX8_voiceAt_0_ok 5 rfl
theorem dX8_voiceAt_9 : decode cX8_voiceAt 9 = .ok (.iconst 0, 1) := dd_all DX8_voiceAt_0_ok 6 rfl
theorem dX8_voiceAt_10 : decode cX8_voiceAt 10 = .ok (.istore_n 3, 1) := dd_all DX8_voiceAt_0_ok 7 rfl
theorem dX8_voiceAt_11 : decode cX8_voiceAt 11 = .ok (.iload_n 3, 1) := dd_all DX8_voiceAt_0_ok 8 rfl
theorem dX8_voiceAt_12 : decode cX8_voiceAt 12 = .ok (.aload_n 0, 1) := dd_all DX8_voiceAt_0_ok 9 rfl
theorem dX8_voiceAt_13 : decode cX8_voiceAt 13 = .ok (.getfield 7, 3) := dd_all DX8_voiceAt_0_ok 10 rfl
theorem dX8_voiceAt_16 : decode cX8_voiceAt 16 = .ok (.iconst 0, 1) := dd_all DX8_voiceAt_0_ok 11 rfl
theorem dX8_voiceAt_17 : decode cX8_voiceAt 17 = .ok (.iaload, 1) := dd_all DX8_voiceAt_0_ok 12 rfl
theorem dX8_voiceAt_18 : decode cX8_voiceAt 18 = .ok (.if_icmp .ge 97, 3) := dd_all DX8_voiceAt_0_ok 13 rfl
theorem dX8_voiceAt_21 : decode cX8_voiceAt 21 = .ok (.iconst 0, 1) := dd_all DX8_voiceAt_0_ok 14 rfl
theorem dX8_voiceAt_22 : decode cX8_voiceAt 22 = .ok (.istore 4, 2) := dd_all DX8_voiceAt_0_ok 15 rfl
theorem dX8_voiceAt_24 : decode cX8_voiceAt 24 = .ok (.iconst 0, 1) := dd_all DX8_voiceAt_0_ok 16 rfl
theorem dX8_voiceAt_25 : decode cX8_voiceAt 25 = .ok (.istore 5, 2) := dd_all DX8_voiceAt_0_ok 17 rfl
theorem dX8_voiceAt_27 : decode cX8_voiceAt 27 = .ok (.iload 5, 2) := dd_all DX8_voiceAt_0_ok 18 rfl
theorem dX8_voiceAt_29 : decode cX8_voiceAt 29 = .ok (.aload_n 0, 1) := dd_all DX8_voiceAt_0_ok 19 rfl
theorem dX8_voiceAt_30 : decode cX8_voiceAt 30 = .ok (.getfield 7, 3) := dd_all DX8_voiceAt_0_ok 20 rfl
theorem dX8_voiceAt_33 : decode cX8_voiceAt 33 = .ok (.iconst 0, 1) := dd_all DX8_voiceAt_0_ok 21 rfl
theorem dX8_voiceAt_34 : decode cX8_voiceAt 34 = .ok (.iaload, 1) := dd_all DX8_voiceAt_0_ok 22 rfl
theorem dX8_voiceAt_35 : decode cX8_voiceAt 35 = .ok (.if_icmp .ge 54, 3) := dd_all DX8_voiceAt_0_ok 23 rfl
theorem dX8_voiceAt_38 : decode cX8_voiceAt 38 = .ok (.aload_n 0, 1) := dd_all DX8_voiceAt_0_ok 24 rfl
theorem dX8_voiceAt_39 : decode cX8_voiceAt 39 = .ok (.iload_n 3, 1) := dd_all DX8_voiceAt_0_ok 25 rfl
theorem dX8_voiceAt_40 : decode cX8_voiceAt 40 = .ok (.invokevirtual 47, 3) := dd_all DX8_voiceAt_0_ok 26 rfl
theorem dX8_voiceAt_43 : decode cX8_voiceAt 43 = .ok (.ifCond .eq 46, 3) := dd_all DX8_voiceAt_0_ok 27 rfl
theorem dX8_voiceAt_46 : decode cX8_voiceAt 46 = .ok (.iload 4, 2) := dd_all DX8_voiceAt_0_ok 28 rfl
theorem dX8_voiceAt_48 : decode cX8_voiceAt 48 = .ok (.aload_n 0, 1) := dd_all DX8_voiceAt_0_ok 29 rfl
theorem dX8_voiceAt_49 : decode cX8_voiceAt 49 = .ok (.iload 5, 2) := dd_all DX8_voiceAt_0_ok 30 rfl
theorem dX8_voiceAt_51 : decode cX8_voiceAt 51 = .ok (.invokevirtual 47, 3) := dd_all DX8_voiceAt_0_ok 31 rfl
theorem dX8_voiceAt_54 : decode cX8_voiceAt 54 = .ok (.ifCond .eq 25, 3) := dd_all DX8_voiceAt_0_ok 32 rfl
theorem dX8_voiceAt_57 : decode cX8_voiceAt 57 = .ok (.aload_n 0, 1) := dd_all DX8_voiceAt_0_ok 33 rfl
theorem dX8_voiceAt_58 : decode cX8_voiceAt 58 = .ok (.iload 5, 2) := dd_all DX8_voiceAt_0_ok 34 rfl
theorem dX8_voiceAt_60 : decode cX8_voiceAt 60 = .ok (.bipush 7, 2) := dd_all DX8_voiceAt_0_ok 35 rfl
theorem dX8_voiceAt_62 : decode cX8_voiceAt 62 = .ok (.invokevirtual 35, 3) := dd_all DX8_voiceAt_0_ok 36 rfl
theorem dX8_voiceAt_65 : decode cX8_voiceAt 65 = .ok (.aload_n 0, 1) := dd_all DX8_voiceAt_0_ok 37 rfl
theorem dX8_voiceAt_66 : decode cX8_voiceAt 66 = .ok (.iload_n 3, 1) := dd_all DX8_voiceAt_0_ok 38 rfl
theorem dX8_voiceAt_67 : decode cX8_voiceAt 67 = .ok (.bipush 7, 2) := dd_all DX8_voiceAt_0_ok 39 rfl
def DX8_voiceAt_40 : List (Nat × Instr × Nat) := [(69, .invokevirtual 35, 3), (72, .if_icmp .ge 7, 3), (75, .iconst 1, 1), (76, .goto 4, 3), (79, .iconst 0, 1), (80, .iadd, 1), (81, .istore 4, 2), (83, .iinc 5 1, 3), (86, .goto (-59), 3), (89, .aload_n 0, 1), (90, .iload_n 3, 1), (91, .invokevirtual 47, 3), (94, .ifCond .eq 13, 3), (97, .iload 4, 2), (99, .iload_n 1, 1), (100, .if_icmp .ne 7, 3), (103, .iload_n 3, 1), (104, .goto 4, 3), (107, .iload_n 2, 1), (108, .istore_n 2, 1), (109, .iinc 3 1, 3), (112, .goto (-101), 3), (115, .iload_n 2, 1), (116, .ireturn, 1)]
theorem DX8_voiceAt_40_ok : ∀ q ∈ DX8_voiceAt_40, decode cX8_voiceAt q.1 = .ok (q.2.1, q.2.2) := by decide +kernel
theorem dX8_voiceAt_69 : decode cX8_voiceAt 69 = .ok (.invokevirtual 35, 3) := dd_all DX8_voiceAt_40_ok 0 rfl
theorem dX8_voiceAt_72 : decode cX8_voiceAt 72 = .ok (.if_icmp .ge 7, 3) := dd_all DX8_voiceAt_40_ok 1 rfl
theorem dX8_voiceAt_75 : decode cX8_voiceAt 75 = .ok (.iconst 1, 1) := dd_all DX8_voiceAt_40_ok 2 rfl
theorem dX8_voiceAt_76 : decode cX8_voiceAt 76 = .ok (.goto 4, 3) := dd_all DX8_voiceAt_40_ok 3 rfl
theorem dX8_voiceAt_79 : decode cX8_voiceAt 79 = .ok (.iconst 0, 1) := dd_all DX8_voiceAt_40_ok 4 rfl
theorem dX8_voiceAt_80 : decode cX8_voiceAt 80 = .ok (.iadd, 1) := dd_all DX8_voiceAt_40_ok 5 rfl
theorem dX8_voiceAt_81 : decode cX8_voiceAt 81 = .ok (.istore 4, 2) := dd_all DX8_voiceAt_40_ok 6 rfl
theorem dX8_voiceAt_83 : decode cX8_voiceAt 83 = .ok (.iinc 5 1, 3) := dd_all DX8_voiceAt_40_ok 7 rfl
theorem dX8_voiceAt_86 : decode cX8_voiceAt 86 = .ok (.goto (-59), 3) := dd_all DX8_voiceAt_40_ok 8 rfl
theorem dX8_voiceAt_89 : decode cX8_voiceAt 89 = .ok (.aload_n 0, 1) := dd_all DX8_voiceAt_40_ok 9 rfl
theorem dX8_voiceAt_90 : decode cX8_voiceAt 90 = .ok (.iload_n 3, 1) := dd_all DX8_voiceAt_40_ok 10 rfl
theorem dX8_voiceAt_91 : decode cX8_voiceAt 91 = .ok (.invokevirtual 47, 3) := dd_all DX8_voiceAt_40_ok 11 rfl
theorem dX8_voiceAt_94 : decode cX8_voiceAt 94 = .ok (.ifCond .eq 13, 3) := dd_all DX8_voiceAt_40_ok 12 rfl
theorem dX8_voiceAt_97 : decode cX8_voiceAt 97 = .ok (.iload 4, 2) := dd_all DX8_voiceAt_40_ok 13 rfl
theorem dX8_voiceAt_99 : decode cX8_voiceAt 99 = .ok (.iload_n 1, 1) := dd_all DX8_voiceAt_40_ok 14 rfl
theorem dX8_voiceAt_100 : decode cX8_voiceAt 100 = .ok (.if_icmp .ne 7, 3) := dd_all DX8_voiceAt_40_ok 15 rfl
theorem dX8_voiceAt_103 : decode cX8_voiceAt 103 = .ok (.iload_n 3, 1) := dd_all DX8_voiceAt_40_ok 16 rfl
theorem dX8_voiceAt_104 : decode cX8_voiceAt 104 = .ok (.goto 4, 3) := dd_all DX8_voiceAt_40_ok 17 rfl
theorem dX8_voiceAt_107 : decode cX8_voiceAt 107 = .ok (.iload_n 2, 1) := dd_all DX8_voiceAt_40_ok 18 rfl
theorem dX8_voiceAt_108 : decode cX8_voiceAt 108 = .ok (.istore_n 2, 1) := dd_all DX8_voiceAt_40_ok 19 rfl
theorem dX8_voiceAt_109 : decode cX8_voiceAt 109 = .ok (.iinc 3 1, 3) := dd_all DX8_voiceAt_40_ok 20 rfl
theorem dX8_voiceAt_112 : decode cX8_voiceAt 112 = .ok (.goto (-101), 3) := dd_all DX8_voiceAt_40_ok 21 rfl
theorem dX8_voiceAt_115 : decode cX8_voiceAt 115 = .ok (.iload_n 2, 1) := dd_all DX8_voiceAt_40_ok 22 rfl
theorem dX8_voiceAt_116 : decode cX8_voiceAt 116 = .ok (.ireturn, 1) := dd_all DX8_voiceAt_40_ok 23 rfl
def DX8_find_0 : List (Nat × Instr × Nat) := [(0, .iload_n 1, 1), (1, .iconst 0, 1), (2, .iconst 3, 1), (3, .invokestatic 39, 3), (6, .ifCond .eq 22, 3), (9, .iload_n 2, 1), (10, .iconst 0, 1), (11, .bipush 127, 2), (13, .invokestatic 39, 3), (16, .ifCond .eq 12, 3), (19, .aload_n 0, 1), (20, .iload_n 1, 1), (21, .iload_n 2, 1), (22, .invokevirtual 58, 3), (25, .goto 4, 3), (28, .iconst (-1), 1), (29, .ireturn, 1)]
theorem DX8_find_0_ok : ∀ q ∈ DX8_find_0, decode cX8_find q.1 = .ok (q.2.1, q.2.2) := by decide +kernel
theorem dX8_find_0 : decode cX8_find 0 = .ok (.iload_n 1, 1) := dd_all DX8_find_0_ok 0 rfl
theorem dX8_find_1 : decode cX8_find 1 = .ok (.iconst 0, 1) := dd_all DX8_find_0_ok 1 rfl
theorem dX8_find_2 : decode cX8_find 2 = .ok (.iconst 3, 1) := dd_all DX8_find_0_ok 2 rfl
theorem dX8_find_3 : decode cX8_find 3 = .ok (.invokestatic 39, 3) := dd_all DX8_find_0_ok 3 rfl
theorem dX8_find_6 : decode cX8_find 6 = .ok (.ifCond .eq 22, 3) := dd_all DX8_find_0_ok 4 rfl
theorem dX8_find_9 : decode cX8_find 9 = .ok (.iload_n 2, 1) := dd_all DX8_find_0_ok 5 rfl
theorem dX8_find_10 : decode cX8_find 10 = .ok (.iconst 0, 1) := dd_all DX8_find_0_ok 6 rfl
theorem dX8_find_11 : decode cX8_find 11 = .ok (.bipush 127, 2) := dd_all DX8_find_0_ok 7 rfl
theorem dX8_find_13 : decode cX8_find 13 = .ok (.invokestatic 39, 3) := dd_all DX8_find_0_ok 8 rfl
theorem dX8_find_16 : decode cX8_find 16 = .ok (.ifCond .eq 12, 3) := dd_all DX8_find_0_ok 9 rfl
theorem dX8_find_19 : decode cX8_find 19 = .ok (.aload_n 0, 1) := dd_all DX8_find_0_ok 10 rfl
theorem dX8_find_20 : decode cX8_find 20 = .ok (.iload_n 1, 1) := dd_all DX8_find_0_ok 11 rfl
theorem dX8_find_21 : decode cX8_find 21 = .ok (.iload_n 2, 1) := dd_all DX8_find_0_ok 12 rfl
theorem dX8_find_22 : decode cX8_find 22 = .ok (.invokevirtual 58, 3) := dd_all DX8_find_0_ok 13 rfl
theorem dX8_find_25 : decode cX8_find 25 = .ok (.goto 4, 3) := dd_all DX8_find_0_ok 14 rfl
theorem dX8_find_28 : decode cX8_find 28 = .ok (.iconst (-1), 1) := dd_all DX8_find_0_ok 15 rfl
theorem dX8_find_29 : decode cX8_find 29 = .ok (.ireturn, 1) := dd_all DX8_find_0_ok 16 rfl
def DX8_heardOf_0 : List (Nat × Instr × Nat) := [(0, .iconst 0, 1), (1, .istore_n 2, 1), (2, .iconst 0, 1), (3, .istore_n 3, 1), (4, .iload_n 3, 1), (5, .aload_n 0, 1), (6, .getfield 7, 3), (9, .iconst 0, 1), (10, .iaload, 1), (11, .if_icmp .ge 39, 3), (14, .iload_n 2, 1), (15, .aload_n 0, 1), (16, .iload_n 3, 1), (17, .invokevirtual 106, 3), (20, .ifCond .eq 21, 3), (23, .aload_n 0, 1), (24, .iload_n 3, 1), (25, .iconst 0, 1), (26, .invokevirtual 35, 3), (29, .iload_n 1, 1), (30, .if_icmp .ne 11, 3), (33, .aload_n 0, 1), (34, .iload_n 3, 1), (35, .invokevirtual 119, 3), (38, .goto 4, 3), (41, .iconst 0, 1), (42, .iadd, 1), (43, .istore_n 2, 1), (44, .iinc 3 1, 3), (47, .goto (-43), 3), (50, .iload_n 2, 1), (51, .ireturn, 1)]
theorem DX8_heardOf_0_ok : ∀ q ∈ DX8_heardOf_0, decode cX8_heardOf q.1 = .ok (q.2.1, q.2.2) := by decide +kernel
theorem dX8_heardOf_0 : decode cX8_heardOf 0 = .ok (.iconst 0, 1) := dd_all DX8_heardOf_0_ok 0 rfl
theorem dX8_heardOf_1 : decode cX8_heardOf 1 = .ok (.istore_n 2, 1) := dd_all DX8_heardOf_0_ok 1 rfl
theorem dX8_heardOf_2 : decode cX8_heardOf 2 = .ok (.iconst 0, 1) := dd_all DX8_heardOf_0_ok 2 rfl
theorem dX8_heardOf_3 : decode cX8_heardOf 3 = .ok (.istore_n 3, 1) := dd_all DX8_heardOf_0_ok 3 rfl
theorem dX8_heardOf_4 : decode cX8_heardOf 4 = .ok (.iload_n 3, 1) := dd_all DX8_heardOf_0_ok 4 rfl
theorem dX8_heardOf_5 : decode cX8_heardOf 5 = .ok (.aload_n 0, 1) := dd_all DX8_heardOf_0_ok 5 rfl
theorem dX8_heardOf_6 : decode cX8_heardOf 6 = .ok (.getfield 7, 3) := dd_all DX8_heardOf_0_ok 6 rfl
theorem dX8_heardOf_9 : decode cX8_heardOf 9 = .ok (.iconst 0, 1) := dd_all DX8_heardOf_0_ok 7 rfl
theorem dX8_heardOf_10 : decode cX8_heardOf 10 = .ok (.iaload, 1) := dd_all DX8_heardOf_0_ok 8 rfl
theorem dX8_heardOf_11 : decode cX8_heardOf 11 = .ok (.if_icmp .ge 39, 3) := dd_all DX8_heardOf_0_ok 9 rfl
theorem dX8_heardOf_14 : decode cX8_heardOf 14 = .ok (.iload_n 2, 1) := dd_all DX8_heardOf_0_ok 10 rfl
theorem dX8_heardOf_15 : decode cX8_heardOf 15 = .ok (.aload_n 0, 1) := dd_all DX8_heardOf_0_ok 11 rfl
theorem dX8_heardOf_16 : decode cX8_heardOf 16 = .ok (.iload_n 3, 1) := dd_all DX8_heardOf_0_ok 12 rfl
theorem dX8_heardOf_17 : decode cX8_heardOf 17 = .ok (.invokevirtual 106, 3) := dd_all DX8_heardOf_0_ok 13 rfl
theorem dX8_heardOf_20 : decode cX8_heardOf 20 = .ok (.ifCond .eq 21, 3) := dd_all DX8_heardOf_0_ok 14 rfl
theorem dX8_heardOf_23 : decode cX8_heardOf 23 = .ok (.aload_n 0, 1) := dd_all DX8_heardOf_0_ok 15 rfl
theorem dX8_heardOf_24 : decode cX8_heardOf 24 = .ok (.iload_n 3, 1) := dd_all DX8_heardOf_0_ok 16 rfl
theorem dX8_heardOf_25 : decode cX8_heardOf 25 = .ok (.iconst 0, 1) := dd_all DX8_heardOf_0_ok 17 rfl
theorem dX8_heardOf_26 : decode cX8_heardOf 26 = .ok (.invokevirtual 35, 3) := dd_all DX8_heardOf_0_ok 18 rfl
theorem dX8_heardOf_29 : decode cX8_heardOf 29 = .ok (.iload_n 1, 1) := dd_all DX8_heardOf_0_ok 19 rfl
theorem dX8_heardOf_30 : decode cX8_heardOf 30 = .ok (.if_icmp .ne 11, 3) := dd_all DX8_heardOf_0_ok 20 rfl
theorem dX8_heardOf_33 : decode cX8_heardOf 33 = .ok (.aload_n 0, 1) := dd_all DX8_heardOf_0_ok 21 rfl
theorem dX8_heardOf_34 : decode cX8_heardOf 34 = .ok (.iload_n 3, 1) := dd_all DX8_heardOf_0_ok 22 rfl
theorem dX8_heardOf_35 : decode cX8_heardOf 35 = .ok (.invokevirtual 119, 3) := dd_all DX8_heardOf_0_ok 23 rfl
theorem dX8_heardOf_38 : decode cX8_heardOf 38 = .ok (.goto 4, 3) := dd_all DX8_heardOf_0_ok 24 rfl
theorem dX8_heardOf_41 : decode cX8_heardOf 41 = .ok (.iconst 0, 1) := dd_all DX8_heardOf_0_ok 25 rfl
theorem dX8_heardOf_42 : decode cX8_heardOf 42 = .ok (.iadd, 1) := dd_all DX8_heardOf_0_ok 26 rfl
theorem dX8_heardOf_43 : decode cX8_heardOf 43 = .ok (.istore_n 2, 1) := dd_all DX8_heardOf_0_ok 27 rfl
theorem dX8_heardOf_44 : decode cX8_heardOf 44 = .ok (.iinc 3 1, 3) := dd_all DX8_heardOf_0_ok 28 rfl
theorem dX8_heardOf_47 : decode cX8_heardOf 47 = .ok (.goto (-43), 3) := dd_all DX8_heardOf_0_ok 29 rfl
theorem dX8_heardOf_50 : decode cX8_heardOf 50 = .ok (.iload_n 2, 1) := dd_all DX8_heardOf_0_ok 30 rfl
theorem dX8_heardOf_51 : decode cX8_heardOf 51 = .ok (.ireturn, 1) := dd_all DX8_heardOf_0_ok 31 rfl
def DX8_partOf_0 : List (Nat × Instr × Nat) := [(0, .iload_n 1, 1), (1, .iconst 0, 1), (2, .iconst 3, 1), (3, .invokestatic 39, 3), (6, .ifCond .eq 12, 3), (9, .iload_n 2, 1), (10, .iconst 0, 1), (11, .iconst 4, 1), (12, .invokestatic 39, 3), (15, .ifCond .ne 5, 3), (18, .iconst (-1), 1), (19, .ireturn, 1), (20, .iconst 0, 1), (21, .istore_n 3, 1), (22, .iconst 0, 1), (23, .istore 4, 2), (25, .iload 4, 2), (27, .aload_n 0, 1), (28, .getfield 7, 3), (31, .iconst 0, 1), (32, .iaload, 1), (33, .if_icmp .ge 121, 3), (36, .iload_n 2, 1), (37, .iconst 3, 1), (38, .if_icmp .eq 116, 3), (41, .iload_n 2, 1), (42, .ifCond .ne 12, 3), (45, .aload_n 0, 1), (46, .iload 4, 2), (48, .invokevirtual 47, 3), (51, .goto 56, 3), (54, .iload_n 2, 1), (55, .iconst 1, 1), (56, .if_icmp .ne 22, 3), (59, .aload_n 0, 1), (60, .iload 4, 2), (62, .iconst 3, 1), (63, .invokevirtual 35, 3), (66, .iconst 5, 1), (67, .if_icmp .ne 7, 3)]
theorem DX8_partOf_0_ok : ∀ q ∈ DX8_partOf_0, decode cX8_partOf q.1 = .ok (q.2.1, q.2.2) := by decide +kernel
theorem dX8_partOf_0 : decode cX8_partOf 0 = .ok (.iload_n 1, 1) := dd_all DX8_partOf_0_ok 0 rfl
theorem dX8_partOf_1 : decode cX8_partOf 1 = .ok (.iconst 0, 1) := dd_all DX8_partOf_0_ok 1 rfl
theorem dX8_partOf_2 : decode cX8_partOf 2 = .ok (.iconst 3, 1) := dd_all DX8_partOf_0_ok 2 rfl
theorem dX8_partOf_3 : decode cX8_partOf 3 = .ok (.invokestatic 39, 3) := dd_all DX8_partOf_0_ok 3 rfl
theorem dX8_partOf_6 : decode cX8_partOf 6 = .ok (.ifCond .eq 12, 3) := dd_all DX8_partOf_0_ok 4 rfl
theorem dX8_partOf_9 : decode cX8_partOf 9 = .ok (.iload_n 2, 1) := dd_all DX8_partOf_0_ok 5 rfl
theorem dX8_partOf_10 : decode cX8_partOf 10 = .ok (.iconst 0, 1) := dd_all DX8_partOf_0_ok 6 rfl
theorem dX8_partOf_11 : decode cX8_partOf 11 = .ok (.iconst 4, 1) := dd_all DX8_partOf_0_ok 7 rfl
theorem dX8_partOf_12 : decode cX8_partOf 12 = .ok (.invokestatic 39, 3) := dd_all DX8_partOf_0_ok 8 rfl
theorem dX8_partOf_15 : decode cX8_partOf 15 = .ok (.ifCond .ne 5, 3) := dd_all DX8_partOf_0_ok 9 rfl
theorem dX8_partOf_18 : decode cX8_partOf 18 = .ok (.iconst (-1), 1) := dd_all DX8_partOf_0_ok 10 rfl
theorem dX8_partOf_19 : decode cX8_partOf 19 = .ok (.ireturn, 1) := dd_all DX8_partOf_0_ok 11 rfl
theorem dX8_partOf_20 : decode cX8_partOf 20 = .ok (.iconst 0, 1) := dd_all DX8_partOf_0_ok 12 rfl
theorem dX8_partOf_21 : decode cX8_partOf 21 = .ok (.istore_n 3, 1) := dd_all DX8_partOf_0_ok 13 rfl
theorem dX8_partOf_22 : decode cX8_partOf 22 = .ok (.iconst 0, 1) := dd_all DX8_partOf_0_ok 14 rfl
theorem dX8_partOf_23 : decode cX8_partOf 23 = .ok (.istore 4, 2) := dd_all DX8_partOf_0_ok 15 rfl
theorem dX8_partOf_25 : decode cX8_partOf 25 = .ok (.iload 4, 2) := dd_all DX8_partOf_0_ok 16 rfl
theorem dX8_partOf_27 : decode cX8_partOf 27 = .ok (.aload_n 0, 1) := dd_all DX8_partOf_0_ok 17 rfl
theorem dX8_partOf_28 : decode cX8_partOf 28 = .ok (.getfield 7, 3) := dd_all DX8_partOf_0_ok 18 rfl
theorem dX8_partOf_31 : decode cX8_partOf 31 = .ok (.iconst 0, 1) := dd_all DX8_partOf_0_ok 19 rfl
theorem dX8_partOf_32 : decode cX8_partOf 32 = .ok (.iaload, 1) := dd_all DX8_partOf_0_ok 20 rfl
theorem dX8_partOf_33 : decode cX8_partOf 33 = .ok (.if_icmp .ge 121, 3) := dd_all DX8_partOf_0_ok 21 rfl
theorem dX8_partOf_36 : decode cX8_partOf 36 = .ok (.iload_n 2, 1) := dd_all DX8_partOf_0_ok 22 rfl
theorem dX8_partOf_37 : decode cX8_partOf 37 = .ok (.iconst 3, 1) := dd_all DX8_partOf_0_ok 23 rfl
theorem dX8_partOf_38 : decode cX8_partOf 38 = .ok (.if_icmp .eq 116, 3) := dd_all DX8_partOf_0_ok 24 rfl
theorem dX8_partOf_41 : decode cX8_partOf 41 = .ok (.iload_n 2, 1) := dd_all DX8_partOf_0_ok 25 rfl
theorem dX8_partOf_42 : decode cX8_partOf 42 = .ok (.ifCond .ne 12, 3) := dd_all DX8_partOf_0_ok 26 rfl
theorem dX8_partOf_45 : decode cX8_partOf 45 = .ok (.aload_n 0, 1) := dd_all DX8_partOf_0_ok 27 rfl
theorem dX8_partOf_46 : decode cX8_partOf 46 = .ok (.iload 4, 2) := dd_all DX8_partOf_0_ok 28 rfl
theorem dX8_partOf_48 : decode cX8_partOf 48 = .ok (.invokevirtual 47, 3) := dd_all DX8_partOf_0_ok 29 rfl
theorem dX8_partOf_51 : decode cX8_partOf 51 = .ok (.goto 56, 3) := dd_all DX8_partOf_0_ok 30 rfl
theorem dX8_partOf_54 : decode cX8_partOf 54 = .ok (.iload_n 2, 1) := dd_all DX8_partOf_0_ok 31 rfl
theorem dX8_partOf_55 : decode cX8_partOf 55 = .ok (.iconst 1, 1) := dd_all DX8_partOf_0_ok 32 rfl
theorem dX8_partOf_56 : decode cX8_partOf 56 = .ok (.if_icmp .ne 22, 3) := dd_all DX8_partOf_0_ok 33 rfl
theorem dX8_partOf_59 : decode cX8_partOf 59 = .ok (.aload_n 0, 1) := dd_all DX8_partOf_0_ok 34 rfl
theorem dX8_partOf_60 : decode cX8_partOf 60 = .ok (.iload 4, 2) := dd_all DX8_partOf_0_ok 35 rfl
theorem dX8_partOf_62 : decode cX8_partOf 62 = .ok (.iconst 3, 1) := dd_all DX8_partOf_0_ok 36 rfl
theorem dX8_partOf_63 : decode cX8_partOf 63 = .ok (.invokevirtual 35, 3) := dd_all DX8_partOf_0_ok 37 rfl
theorem dX8_partOf_66 : decode cX8_partOf 66 = .ok (.iconst 5, 1) := dd_all DX8_partOf_0_ok 38 rfl
theorem dX8_partOf_67 : decode cX8_partOf 67 = .ok (.if_icmp .ne 7, 3) := dd_all DX8_partOf_0_ok 39 rfl
def DX8_partOf_40 : List (Nat × Instr × Nat) := [(70, .iconst 1, 1), (71, .goto 36, 3), (74, .iconst 0, 1), (75, .goto 32, 3), (78, .iload_n 2, 1), (79, .iconst 2, 1), (80, .if_icmp .ne 12, 3), (83, .aload_n 0, 1), (84, .iload 4, 2), (86, .invokevirtual 106, 3), (89, .goto 18, 3), (92, .aload_n 0, 1), (93, .iload 4, 2), (95, .iconst 3, 1), (96, .invokevirtual 35, 3), (99, .ifCond .ne 7, 3), (102, .iconst 1, 1), (103, .goto 4, 3), (106, .iconst 0, 1), (107, .istore 5, 2), (109, .iload_n 3, 1), (110, .iload 5, 2), (112, .ifCond .eq 14, 3), (115, .aload_n 0, 1), (116, .iload 4, 2), (118, .iconst 0, 1), (119, .invokevirtual 35, 3), (122, .iload_n 1, 1), (123, .if_icmp .eq 7, 3), (126, .iconst 0, 1), (127, .goto 19, 3), (130, .iload_n 2, 1), (131, .iconst 2, 1), (132, .if_icmp .ne 13, 3), (135, .aload_n 0, 1), (136, .iload 4, 2), (138, .iconst 4, 1), (139, .invokevirtual 35, 3), (142, .goto 4, 3), (145, .iconst 1, 1)]
theorem DX8_partOf_40_ok : ∀ q ∈ DX8_partOf_40, decode cX8_partOf q.1 = .ok (q.2.1, q.2.2) := by decide +kernel
theorem dX8_partOf_70 : decode cX8_partOf 70 = .ok (.iconst 1, 1) := dd_all DX8_partOf_40_ok 0 rfl
theorem dX8_partOf_71 : decode cX8_partOf 71 = .ok (.goto 36, 3) := dd_all DX8_partOf_40_ok 1 rfl
theorem dX8_partOf_74 : decode cX8_partOf 74 = .ok (.iconst 0, 1) := dd_all DX8_partOf_40_ok 2 rfl
theorem dX8_partOf_75 : decode cX8_partOf 75 = .ok (.goto 32, 3) := dd_all DX8_partOf_40_ok 3 rfl
theorem dX8_partOf_78 : decode cX8_partOf 78 = .ok (.iload_n 2, 1) := dd_all DX8_partOf_40_ok 4 rfl
theorem dX8_partOf_79 : decode cX8_partOf 79 = .ok (.iconst 2, 1) := dd_all DX8_partOf_40_ok 5 rfl
theorem dX8_partOf_80 : decode cX8_partOf 80 = .ok (.if_icmp .ne 12, 3) := dd_all DX8_partOf_40_ok 6 rfl
theorem dX8_partOf_83 : decode cX8_partOf 83 = .ok (.aload_n 0, 1) := dd_all DX8_partOf_40_ok 7 rfl
theorem dX8_partOf_84 : decode cX8_partOf 84 = .ok (.iload 4, 2) := dd_all DX8_partOf_40_ok 8 rfl
theorem dX8_partOf_86 : decode cX8_partOf 86 = .ok (.invokevirtual 106, 3) := dd_all DX8_partOf_40_ok 9 rfl
theorem dX8_partOf_89 : decode cX8_partOf 89 = .ok (.goto 18, 3) := dd_all DX8_partOf_40_ok 10 rfl
theorem dX8_partOf_92 : decode cX8_partOf 92 = .ok (.aload_n 0, 1) := dd_all DX8_partOf_40_ok 11 rfl
theorem dX8_partOf_93 : decode cX8_partOf 93 = .ok (.iload 4, 2) := dd_all DX8_partOf_40_ok 12 rfl
theorem dX8_partOf_95 : decode cX8_partOf 95 = .ok (.iconst 3, 1) := dd_all DX8_partOf_40_ok 13 rfl
theorem dX8_partOf_96 : decode cX8_partOf 96 = .ok (.invokevirtual 35, 3) := dd_all DX8_partOf_40_ok 14 rfl
theorem dX8_partOf_99 : decode cX8_partOf 99 = .ok (.ifCond .ne 7, 3) := dd_all DX8_partOf_40_ok 15 rfl
theorem dX8_partOf_102 : decode cX8_partOf 102 = .ok (.iconst 1, 1) := dd_all DX8_partOf_40_ok 16 rfl
theorem dX8_partOf_103 : decode cX8_partOf 103 = .ok (.goto 4, 3) := dd_all DX8_partOf_40_ok 17 rfl
theorem dX8_partOf_106 : decode cX8_partOf 106 = .ok (.iconst 0, 1) := dd_all DX8_partOf_40_ok 18 rfl
theorem dX8_partOf_107 : decode cX8_partOf 107 = .ok (.istore 5, 2) := dd_all DX8_partOf_40_ok 19 rfl
theorem dX8_partOf_109 : decode cX8_partOf 109 = .ok (.iload_n 3, 1) := dd_all DX8_partOf_40_ok 20 rfl
theorem dX8_partOf_110 : decode cX8_partOf 110 = .ok (.iload 5, 2) := dd_all DX8_partOf_40_ok 21 rfl
theorem dX8_partOf_112 : decode cX8_partOf 112 = .ok (.ifCond .eq 14, 3) := dd_all DX8_partOf_40_ok 22 rfl
theorem dX8_partOf_115 : decode cX8_partOf 115 = .ok (.aload_n 0, 1) := dd_all DX8_partOf_40_ok 23 rfl
theorem dX8_partOf_116 : decode cX8_partOf 116 = .ok (.iload 4, 2) := dd_all DX8_partOf_40_ok 24 rfl
theorem dX8_partOf_118 : decode cX8_partOf 118 = .ok (.iconst 0, 1) := dd_all DX8_partOf_40_ok 25 rfl
theorem dX8_partOf_119 : decode cX8_partOf 119 = .ok (.invokevirtual 35, 3) := dd_all DX8_partOf_40_ok 26 rfl
theorem dX8_partOf_122 : decode cX8_partOf 122 = .ok (.iload_n 1, 1) := dd_all DX8_partOf_40_ok 27 rfl
theorem dX8_partOf_123 : decode cX8_partOf 123 = .ok (.if_icmp .eq 7, 3) := dd_all DX8_partOf_40_ok 28 rfl
theorem dX8_partOf_126 : decode cX8_partOf 126 = .ok (.iconst 0, 1) := dd_all DX8_partOf_40_ok 29 rfl
theorem dX8_partOf_127 : decode cX8_partOf 127 = .ok (.goto 19, 3) := dd_all DX8_partOf_40_ok 30 rfl
theorem dX8_partOf_130 : decode cX8_partOf 130 = .ok (.iload_n 2, 1) := dd_all DX8_partOf_40_ok 31 rfl
theorem dX8_partOf_131 : decode cX8_partOf 131 = .ok (.iconst 2, 1) := dd_all DX8_partOf_40_ok 32 rfl
theorem dX8_partOf_132 : decode cX8_partOf 132 = .ok (.if_icmp .ne 13, 3) := dd_all DX8_partOf_40_ok 33 rfl
theorem dX8_partOf_135 : decode cX8_partOf 135 = .ok (.aload_n 0, 1) := dd_all DX8_partOf_40_ok 34 rfl
theorem dX8_partOf_136 : decode cX8_partOf 136 = .ok (.iload 4, 2) := dd_all DX8_partOf_40_ok 35 rfl
theorem dX8_partOf_138 : decode cX8_partOf 138 = .ok (.iconst 4, 1) := dd_all DX8_partOf_40_ok 36 rfl
theorem dX8_partOf_139 : decode cX8_partOf 139 = .ok (.invokevirtual 35, 3) := dd_all DX8_partOf_40_ok 37 rfl
theorem dX8_partOf_142 : decode cX8_partOf 142 = .ok (.goto 4, 3) := dd_all DX8_partOf_40_ok 38 rfl
theorem dX8_partOf_145 : decode cX8_partOf 145 = .ok (.iconst 1, 1) := dd_all DX8_partOf_40_ok 39 rfl
def DX8_partOf_80 : List (Nat × Instr × Nat) := [(146, .iadd, 1), (147, .istore_n 3, 1), (148, .iinc 4 1, 3), (151, .goto (-126), 3), (154, .iload_n 2, 1), (155, .iconst 3, 1), (156, .if_icmp .ne 11, 3), (159, .aload_n 0, 1), (160, .iload_n 1, 1), (161, .invokevirtual 125, 3), (164, .goto 4, 3), (167, .iload_n 3, 1), (168, .ireturn, 1)]
theorem DX8_partOf_80_ok : ∀ q ∈ DX8_partOf_80, decode cX8_partOf q.1 = .ok (q.2.1, q.2.2) := by decide +kernel
theorem dX8_partOf_146 : decode cX8_partOf 146 = .ok (.iadd, 1) := dd_all DX8_partOf_80_ok 0 rfl
theorem dX8_partOf_147 : decode cX8_partOf 147 = .ok (.istore_n 3, 1) := dd_all DX8_partOf_80_ok 1 rfl
theorem dX8_partOf_148 : decode cX8_partOf 148 = .ok (.iinc 4 1, 3) := dd_all DX8_partOf_80_ok 2 rfl
theorem dX8_partOf_151 : decode cX8_partOf 151 = .ok (.goto (-126), 3) := dd_all DX8_partOf_80_ok 3 rfl
theorem dX8_partOf_154 : decode cX8_partOf 154 = .ok (.iload_n 2, 1) := dd_all DX8_partOf_80_ok 4 rfl
theorem dX8_partOf_155 : decode cX8_partOf 155 = .ok (.iconst 3, 1) := dd_all DX8_partOf_80_ok 5 rfl
theorem dX8_partOf_156 : decode cX8_partOf 156 = .ok (.if_icmp .ne 11, 3) := dd_all DX8_partOf_80_ok 6 rfl
theorem dX8_partOf_159 : decode cX8_partOf 159 = .ok (.aload_n 0, 1) := dd_all DX8_partOf_80_ok 7 rfl
theorem dX8_partOf_160 : decode cX8_partOf 160 = .ok (.iload_n 1, 1) := dd_all DX8_partOf_80_ok 8 rfl
theorem dX8_partOf_161 : decode cX8_partOf 161 = .ok (.invokevirtual 125, 3) := dd_all DX8_partOf_80_ok 9 rfl
theorem dX8_partOf_164 : decode cX8_partOf 164 = .ok (.goto 4, 3) := dd_all DX8_partOf_80_ok 10 rfl
theorem dX8_partOf_167 : decode cX8_partOf 167 = .ok (.iload_n 3, 1) := dd_all DX8_partOf_80_ok 11 rfl
theorem dX8_partOf_168 : decode cX8_partOf 168 = .ok (.ireturn, 1) := dd_all DX8_partOf_80_ok 12 rfl
def DX8_heardOfAll_0 : List (Nat × Instr × Nat) := [(0, .aload_n 0, 1), (1, .iconst 0, 1), (2, .invokevirtual 125, 3), (5, .aload_n 0, 1), (6, .iconst 1, 1), (7, .invokevirtual 125, 3), (10, .iadd, 1), (11, .aload_n 0, 1), (12, .iconst 2, 1), (13, .invokevirtual 125, 3), (16, .iadd, 1), (17, .aload_n 0, 1), (18, .iconst 3, 1), (19, .invokevirtual 125, 3), (22, .iadd, 1), (23, .ireturn, 1)]
theorem DX8_heardOfAll_0_ok : ∀ q ∈ DX8_heardOfAll_0, decode cX8_heardOfAll q.1 = .ok (q.2.1, q.2.2) := by decide +kernel
theorem dX8_heardOfAll_0 : decode cX8_heardOfAll 0 = .ok (.aload_n 0, 1) := dd_all DX8_heardOfAll_0_ok 0 rfl
theorem dX8_heardOfAll_1 : decode cX8_heardOfAll 1 = .ok (.iconst 0, 1) := dd_all DX8_heardOfAll_0_ok 1 rfl
theorem dX8_heardOfAll_2 : decode cX8_heardOfAll 2 = .ok (.invokevirtual 125, 3) := dd_all DX8_heardOfAll_0_ok 2 rfl
theorem dX8_heardOfAll_5 : decode cX8_heardOfAll 5 = .ok (.aload_n 0, 1) := dd_all DX8_heardOfAll_0_ok 3 rfl
theorem dX8_heardOfAll_6 : decode cX8_heardOfAll 6 = .ok (.iconst 1, 1) := dd_all DX8_heardOfAll_0_ok 4 rfl
theorem dX8_heardOfAll_7 : decode cX8_heardOfAll 7 = .ok (.invokevirtual 125, 3) := dd_all DX8_heardOfAll_0_ok 5 rfl
theorem dX8_heardOfAll_10 : decode cX8_heardOfAll 10 = .ok (.iadd, 1) := dd_all DX8_heardOfAll_0_ok 6 rfl
theorem dX8_heardOfAll_11 : decode cX8_heardOfAll 11 = .ok (.aload_n 0, 1) := dd_all DX8_heardOfAll_0_ok 7 rfl
theorem dX8_heardOfAll_12 : decode cX8_heardOfAll 12 = .ok (.iconst 2, 1) := dd_all DX8_heardOfAll_0_ok 8 rfl
theorem dX8_heardOfAll_13 : decode cX8_heardOfAll 13 = .ok (.invokevirtual 125, 3) := dd_all DX8_heardOfAll_0_ok 9 rfl
theorem dX8_heardOfAll_16 : decode cX8_heardOfAll 16 = .ok (.iadd, 1) := dd_all DX8_heardOfAll_0_ok 10 rfl
theorem dX8_heardOfAll_17 : decode cX8_heardOfAll 17 = .ok (.aload_n 0, 1) := dd_all DX8_heardOfAll_0_ok 11 rfl
theorem dX8_heardOfAll_18 : decode cX8_heardOfAll 18 = .ok (.iconst 3, 1) := dd_all DX8_heardOfAll_0_ok 12 rfl
theorem dX8_heardOfAll_19 : decode cX8_heardOfAll 19 = .ok (.invokevirtual 125, 3) := dd_all DX8_heardOfAll_0_ok 13 rfl
theorem dX8_heardOfAll_22 : decode cX8_heardOfAll 22 = .ok (.iadd, 1) := dd_all DX8_heardOfAll_0_ok 14 rfl
theorem dX8_heardOfAll_23 : decode cX8_heardOfAll 23 = .ok (.ireturn, 1) := dd_all DX8_heardOfAll_0_ok 15 rfl
def DX8_free_0 : List (Nat × Instr × Nat) := [(0, .aload_n 0, 1), (1, .getfield 7, 3), (4, .bipush 6, 2), (6, .iaload, 1), (7, .aload_n 0, 1), (8, .invokevirtual 68, 3), (11, .isub, 1), (12, .istore_n 1, 1), (13, .iload_n 1, 1), (14, .ifCond .ge 7, 3), (17, .iconst 0, 1), (18, .goto 4, 3), (21, .iload_n 1, 1), (22, .ireturn, 1)]
theorem DX8_free_0_ok : ∀ q ∈ DX8_free_0, decode cX8_free q.1 = .ok (q.2.1, q.2.2) := by decide +kernel
theorem dX8_free_0 : decode cX8_free 0 = .ok (.aload_n 0, 1) := dd_all DX8_free_0_ok 0 rfl
theorem dX8_free_1 : decode cX8_free 1 = .ok (.getfield 7, 3) := dd_all DX8_free_0_ok 1 rfl
theorem dX8_free_4 : decode cX8_free 4 = .ok (.bipush 6, 2) := dd_all DX8_free_0_ok 2 rfl
theorem dX8_free_6 : decode cX8_free 6 = .ok (.iaload, 1) := dd_all DX8_free_0_ok 3 rfl
theorem dX8_free_7 : decode cX8_free 7 = .ok (.aload_n 0, 1) := dd_all DX8_free_0_ok 4 rfl
theorem dX8_free_8 : decode cX8_free 8 = .ok (.invokevirtual 68, 3) := dd_all DX8_free_0_ok 5 rfl
theorem dX8_free_11 : decode cX8_free 11 = .ok (.isub, 1) := dd_all DX8_free_0_ok 6 rfl
theorem dX8_free_12 : decode cX8_free 12 = .ok (.istore_n 1, 1) := dd_all DX8_free_0_ok 7 rfl
theorem dX8_free_13 : decode cX8_free 13 = .ok (.iload_n 1, 1) := dd_all DX8_free_0_ok 8 rfl
theorem dX8_free_14 : decode cX8_free 14 = .ok (.ifCond .ge 7, 3) := dd_all DX8_free_0_ok 9 rfl
theorem dX8_free_17 : decode cX8_free 17 = .ok (.iconst 0, 1) := dd_all DX8_free_0_ok 10 rfl
theorem dX8_free_18 : decode cX8_free 18 = .ok (.goto 4, 3) := dd_all DX8_free_0_ok 11 rfl
theorem dX8_free_21 : decode cX8_free 21 = .ok (.iload_n 1, 1) := dd_all DX8_free_0_ok 12 rfl
theorem dX8_free_22 : decode cX8_free 22 = .ok (.ireturn, 1) := dd_all DX8_free_0_ok 13 rfl
def DX8_count_0 : List (Nat × Instr × Nat) := [(0, .iload_n 1, 1), (1, .tableswitch 197 0 22 #[107, 114, 119, 124, 130, 136, 143, 148, 153, 160, 167, 174, 179, 197, 197, 197, 197, 197, 197, 197, 184, 184, 184], 107), (108, .aload_n 0, 1), (109, .getfield 7, 3), (112, .iconst 0, 1), (113, .iaload, 1), (114, .ireturn, 1), (115, .aload_n 0, 1), (116, .invokevirtual 68, 3), (119, .ireturn, 1), (120, .aload_n 0, 1), (121, .invokevirtual 128, 3), (124, .ireturn, 1), (125, .aload_n 0, 1), (126, .iconst 5, 1), (127, .invokevirtual 55, 3), (130, .ireturn, 1), (131, .aload_n 0, 1), (132, .iconst 0, 1), (133, .invokevirtual 55, 3), (136, .ireturn, 1), (137, .aload_n 0, 1), (138, .getfield 7, 3), (141, .iconst 1, 1), (142, .iaload, 1), (143, .ireturn, 1), (144, .aload_n 0, 1), (145, .invokevirtual 113, 3), (148, .ireturn, 1), (149, .aload_n 0, 1), (150, .invokevirtual 131, 3), (153, .ireturn, 1), (154, .aload_n 0, 1), (155, .getfield 7, 3), (158, .iconst 2, 1), (159, .iaload, 1), (160, .ireturn, 1), (161, .aload_n 0, 1), (162, .getfield 7, 3), (165, .iconst 3, 1)]
theorem DX8_count_0_ok : ∀ q ∈ DX8_count_0, decode cX8_count q.1 = .ok (q.2.1, q.2.2) := by decide +kernel
theorem dX8_count_0 : decode cX8_count 0 = .ok (.iload_n 1, 1) := dd_all DX8_count_0_ok 0 rfl
theorem dX8_count_1 : decode cX8_count 1 = .ok (.tableswitch 197 0 22 #[107, 114, 119, 124, 130, 136, 143, 148, 153, 160, 167, 174, 179, 197, 197, 197, 197, 197, 197, 197, 184, 184, 184], 107) := dd_all DX8_count_0_ok 1 rfl
theorem dX8_count_108 : decode cX8_count 108 = .ok (.aload_n 0, 1) := dd_all DX8_count_0_ok 2 rfl
theorem dX8_count_109 : decode cX8_count 109 = .ok (.getfield 7, 3) := dd_all DX8_count_0_ok 3 rfl
theorem dX8_count_112 : decode cX8_count 112 = .ok (.iconst 0, 1) := dd_all DX8_count_0_ok 4 rfl
theorem dX8_count_113 : decode cX8_count 113 = .ok (.iaload, 1) := dd_all DX8_count_0_ok 5 rfl
theorem dX8_count_114 : decode cX8_count 114 = .ok (.ireturn, 1) := dd_all DX8_count_0_ok 6 rfl
theorem dX8_count_115 : decode cX8_count 115 = .ok (.aload_n 0, 1) := dd_all DX8_count_0_ok 7 rfl
theorem dX8_count_116 : decode cX8_count 116 = .ok (.invokevirtual 68, 3) := dd_all DX8_count_0_ok 8 rfl
theorem dX8_count_119 : decode cX8_count 119 = .ok (.ireturn, 1) := dd_all DX8_count_0_ok 9 rfl
theorem dX8_count_120 : decode cX8_count 120 = .ok (.aload_n 0, 1) := dd_all DX8_count_0_ok 10 rfl
theorem dX8_count_121 : decode cX8_count 121 = .ok (.invokevirtual 128, 3) := dd_all DX8_count_0_ok 11 rfl
theorem dX8_count_124 : decode cX8_count 124 = .ok (.ireturn, 1) := dd_all DX8_count_0_ok 12 rfl
theorem dX8_count_125 : decode cX8_count 125 = .ok (.aload_n 0, 1) := dd_all DX8_count_0_ok 13 rfl
theorem dX8_count_126 : decode cX8_count 126 = .ok (.iconst 5, 1) := dd_all DX8_count_0_ok 14 rfl
theorem dX8_count_127 : decode cX8_count 127 = .ok (.invokevirtual 55, 3) := dd_all DX8_count_0_ok 15 rfl
theorem dX8_count_130 : decode cX8_count 130 = .ok (.ireturn, 1) := dd_all DX8_count_0_ok 16 rfl
theorem dX8_count_131 : decode cX8_count 131 = .ok (.aload_n 0, 1) := dd_all DX8_count_0_ok 17 rfl
theorem dX8_count_132 : decode cX8_count 132 = .ok (.iconst 0, 1) := dd_all DX8_count_0_ok 18 rfl
theorem dX8_count_133 : decode cX8_count 133 = .ok (.invokevirtual 55, 3) := dd_all DX8_count_0_ok 19 rfl
theorem dX8_count_136 : decode cX8_count 136 = .ok (.ireturn, 1) := dd_all DX8_count_0_ok 20 rfl
theorem dX8_count_137 : decode cX8_count 137 = .ok (.aload_n 0, 1) := dd_all DX8_count_0_ok 21 rfl
theorem dX8_count_138 : decode cX8_count 138 = .ok (.getfield 7, 3) := dd_all DX8_count_0_ok 22 rfl
theorem dX8_count_141 : decode cX8_count 141 = .ok (.iconst 1, 1) := dd_all DX8_count_0_ok 23 rfl
theorem dX8_count_142 : decode cX8_count 142 = .ok (.iaload, 1) := dd_all DX8_count_0_ok 24 rfl
theorem dX8_count_143 : decode cX8_count 143 = .ok (.ireturn, 1) := dd_all DX8_count_0_ok 25 rfl
theorem dX8_count_144 : decode cX8_count 144 = .ok (.aload_n 0, 1) := dd_all DX8_count_0_ok 26 rfl
theorem dX8_count_145 : decode cX8_count 145 = .ok (.invokevirtual 113, 3) := dd_all DX8_count_0_ok 27 rfl
theorem dX8_count_148 : decode cX8_count 148 = .ok (.ireturn, 1) := dd_all DX8_count_0_ok 28 rfl
theorem dX8_count_149 : decode cX8_count 149 = .ok (.aload_n 0, 1) := dd_all DX8_count_0_ok 29 rfl
theorem dX8_count_150 : decode cX8_count 150 = .ok (.invokevirtual 131, 3) := dd_all DX8_count_0_ok 30 rfl
theorem dX8_count_153 : decode cX8_count 153 = .ok (.ireturn, 1) := dd_all DX8_count_0_ok 31 rfl
theorem dX8_count_154 : decode cX8_count 154 = .ok (.aload_n 0, 1) := dd_all DX8_count_0_ok 32 rfl
theorem dX8_count_155 : decode cX8_count 155 = .ok (.getfield 7, 3) := dd_all DX8_count_0_ok 33 rfl
theorem dX8_count_158 : decode cX8_count 158 = .ok (.iconst 2, 1) := dd_all DX8_count_0_ok 34 rfl
theorem dX8_count_159 : decode cX8_count 159 = .ok (.iaload, 1) := dd_all DX8_count_0_ok 35 rfl
theorem dX8_count_160 : decode cX8_count 160 = .ok (.ireturn, 1) := dd_all DX8_count_0_ok 36 rfl
theorem dX8_count_161 : decode cX8_count 161 = .ok (.aload_n 0, 1) := dd_all DX8_count_0_ok 37 rfl
theorem dX8_count_162 : decode cX8_count 162 = .ok (.getfield 7, 3) := dd_all DX8_count_0_ok 38 rfl
theorem dX8_count_165 : decode cX8_count 165 = .ok (.iconst 3, 1) := dd_all DX8_count_0_ok 39 rfl
def DX8_count_40 : List (Nat × Instr × Nat) := [(166, .iaload, 1), (167, .ireturn, 1), (168, .aload_n 0, 1), (169, .getfield 7, 3), (172, .iconst 4, 1), (173, .iaload, 1), (174, .ireturn, 1), (175, .aload_n 0, 1), (176, .getfield 31, 3), (179, .ireturn, 1), (180, .aload_n 0, 1), (181, .getfield 134, 3), (184, .ireturn, 1), (185, .aload_n 0, 1), (186, .getfield 7, 3), (189, .bipush 6, 2), (191, .iload_n 1, 1), (192, .iadd, 1), (193, .bipush 20, 2), (195, .isub, 1), (196, .iaload, 1), (197, .ireturn, 1), (198, .iconst (-1), 1), (199, .ireturn, 1)]
theorem DX8_count_40_ok : ∀ q ∈ DX8_count_40, decode cX8_count q.1 = .ok (q.2.1, q.2.2) := by decide +kernel
theorem dX8_count_166 : decode cX8_count 166 = .ok (.iaload, 1) := dd_all DX8_count_40_ok 0 rfl
theorem dX8_count_167 : decode cX8_count 167 = .ok (.ireturn, 1) := dd_all DX8_count_40_ok 1 rfl
theorem dX8_count_168 : decode cX8_count 168 = .ok (.aload_n 0, 1) := dd_all DX8_count_40_ok 2 rfl
theorem dX8_count_169 : decode cX8_count 169 = .ok (.getfield 7, 3) := dd_all DX8_count_40_ok 3 rfl
theorem dX8_count_172 : decode cX8_count 172 = .ok (.iconst 4, 1) := dd_all DX8_count_40_ok 4 rfl
theorem dX8_count_173 : decode cX8_count 173 = .ok (.iaload, 1) := dd_all DX8_count_40_ok 5 rfl
theorem dX8_count_174 : decode cX8_count 174 = .ok (.ireturn, 1) := dd_all DX8_count_40_ok 6 rfl
theorem dX8_count_175 : decode cX8_count 175 = .ok (.aload_n 0, 1) := dd_all DX8_count_40_ok 7 rfl
theorem dX8_count_176 : decode cX8_count 176 = .ok (.getfield 31, 3) := dd_all DX8_count_40_ok 8 rfl
theorem dX8_count_179 : decode cX8_count 179 = .ok (.ireturn, 1) := dd_all DX8_count_40_ok 9 rfl
theorem dX8_count_180 : decode cX8_count 180 = .ok (.aload_n 0, 1) := dd_all DX8_count_40_ok 10 rfl
theorem dX8_count_181 : decode cX8_count 181 = .ok (.getfield 134, 3) := dd_all DX8_count_40_ok 11 rfl
theorem dX8_count_184 : decode cX8_count 184 = .ok (.ireturn, 1) := dd_all DX8_count_40_ok 12 rfl
theorem dX8_count_185 : decode cX8_count 185 = .ok (.aload_n 0, 1) := dd_all DX8_count_40_ok 13 rfl
theorem dX8_count_186 : decode cX8_count 186 = .ok (.getfield 7, 3) := dd_all DX8_count_40_ok 14 rfl
theorem dX8_count_189 : decode cX8_count 189 = .ok (.bipush 6, 2) := dd_all DX8_count_40_ok 15 rfl
theorem dX8_count_191 : decode cX8_count 191 = .ok (.iload_n 1, 1) := dd_all DX8_count_40_ok 16 rfl
theorem dX8_count_192 : decode cX8_count 192 = .ok (.iadd, 1) := dd_all DX8_count_40_ok 17 rfl
theorem dX8_count_193 : decode cX8_count 193 = .ok (.bipush 20, 2) := dd_all DX8_count_40_ok 18 rfl
theorem dX8_count_195 : decode cX8_count 195 = .ok (.isub, 1) := dd_all DX8_count_40_ok 19 rfl
theorem dX8_count_196 : decode cX8_count 196 = .ok (.iaload, 1) := dd_all DX8_count_40_ok 20 rfl
theorem dX8_count_197 : decode cX8_count 197 = .ok (.ireturn, 1) := dd_all DX8_count_40_ok 21 rfl
theorem dX8_count_198 : decode cX8_count 198 = .ok (.iconst (-1), 1) := dd_all DX8_count_40_ok 22 rfl
theorem dX8_count_199 : decode cX8_count 199 = .ok (.ireturn, 1) := dd_all DX8_count_40_ok 23 rfl
def DX8_next_0 : List (Nat × Instr × Nat) := [(0, .aload_n 0, 1), (1, .invokevirtual 72, 3), (4, .ireturn, 1)]
theorem DX8_next_0_ok : ∀ q ∈ DX8_next_0, decode cX8_next q.1 = .ok (q.2.1, q.2.2) := by decide +kernel
theorem dX8_next_0 : decode cX8_next 0 = .ok (.aload_n 0, 1) := dd_all DX8_next_0_ok 0 rfl
theorem dX8_next_1 : decode cX8_next 1 = .ok (.invokevirtual 72, 3) := dd_all DX8_next_0_ok 1 rfl
theorem dX8_next_4 : decode cX8_next 4 = .ok (.ireturn, 1) := dd_all DX8_next_0_ok 2 rfl
def DX8_peak_0 : List (Nat × Instr × Nat) := [(0, .iload_n 1, 1), (1, .iconst 1, 1), (2, .sipush 200, 3), (5, .invokestatic 39, 3), (8, .ifCond .ne 5, 3), (11, .iconst (-1), 1), (12, .ireturn, 1), (13, .aload_n 0, 1), (14, .aload_n 0, 1), (15, .getfield 7, 3), (18, .aload_n 0, 1), (19, .getfield 16, 3), (22, .invokevirtual 137, 3), (25, .iconst 0, 1), (26, .istore_n 2, 1), (27, .iconst 0, 1), (28, .istore_n 3, 1), (29, .iload_n 3, 1), (30, .iload_n 1, 1), (31, .if_icmp .ge 30, 3), (34, .aload_n 0, 1), (35, .invokevirtual 110, 3), (38, .aload_n 0, 1), (39, .invokevirtual 113, 3), (42, .iload_n 2, 1), (43, .if_icmp .le 10, 3), (46, .aload_n 0, 1), (47, .invokevirtual 113, 3), (50, .goto 4, 3), (53, .iload_n 2, 1), (54, .istore_n 2, 1), (55, .iinc 3 1, 3), (58, .goto (-29), 3), (61, .aload_n 0, 1), (62, .aload_n 0, 1), (63, .getfield 16, 3), (66, .aload_n 0, 1), (67, .getfield 7, 3), (70, .invokevirtual 137, 3), (73, .iload_n 2, 1)]
theorem DX8_peak_0_ok : ∀ q ∈ DX8_peak_0, decode cX8_peak q.1 = .ok (q.2.1, q.2.2) := by decide +kernel
theorem dX8_peak_0 : decode cX8_peak 0 = .ok (.iload_n 1, 1) := dd_all DX8_peak_0_ok 0 rfl
theorem dX8_peak_1 : decode cX8_peak 1 = .ok (.iconst 1, 1) := dd_all DX8_peak_0_ok 1 rfl
theorem dX8_peak_2 : decode cX8_peak 2 = .ok (.sipush 200, 3) := dd_all DX8_peak_0_ok 2 rfl
theorem dX8_peak_5 : decode cX8_peak 5 = .ok (.invokestatic 39, 3) := dd_all DX8_peak_0_ok 3 rfl
theorem dX8_peak_8 : decode cX8_peak 8 = .ok (.ifCond .ne 5, 3) := dd_all DX8_peak_0_ok 4 rfl
theorem dX8_peak_11 : decode cX8_peak 11 = .ok (.iconst (-1), 1) := dd_all DX8_peak_0_ok 5 rfl
theorem dX8_peak_12 : decode cX8_peak 12 = .ok (.ireturn, 1) := dd_all DX8_peak_0_ok 6 rfl
theorem dX8_peak_13 : decode cX8_peak 13 = .ok (.aload_n 0, 1) := dd_all DX8_peak_0_ok 7 rfl
theorem dX8_peak_14 : decode cX8_peak 14 = .ok (.aload_n 0, 1) := dd_all DX8_peak_0_ok 8 rfl
theorem dX8_peak_15 : decode cX8_peak 15 = .ok (.getfield 7, 3) := dd_all DX8_peak_0_ok 9 rfl
theorem dX8_peak_18 : decode cX8_peak 18 = .ok (.aload_n 0, 1) := dd_all DX8_peak_0_ok 10 rfl
theorem dX8_peak_19 : decode cX8_peak 19 = .ok (.getfield 16, 3) := dd_all DX8_peak_0_ok 11 rfl
theorem dX8_peak_22 : decode cX8_peak 22 = .ok (.invokevirtual 137, 3) := dd_all DX8_peak_0_ok 12 rfl
theorem dX8_peak_25 : decode cX8_peak 25 = .ok (.iconst 0, 1) := dd_all DX8_peak_0_ok 13 rfl
theorem dX8_peak_26 : decode cX8_peak 26 = .ok (.istore_n 2, 1) := dd_all DX8_peak_0_ok 14 rfl
theorem dX8_peak_27 : decode cX8_peak 27 = .ok (.iconst 0, 1) := dd_all DX8_peak_0_ok 15 rfl
theorem dX8_peak_28 : decode cX8_peak 28 = .ok (.istore_n 3, 1) := dd_all DX8_peak_0_ok 16 rfl
theorem dX8_peak_29 : decode cX8_peak 29 = .ok (.iload_n 3, 1) := dd_all DX8_peak_0_ok 17 rfl
theorem dX8_peak_30 : decode cX8_peak 30 = .ok (.iload_n 1, 1) := dd_all DX8_peak_0_ok 18 rfl
theorem dX8_peak_31 : decode cX8_peak 31 = .ok (.if_icmp .ge 30, 3) := dd_all DX8_peak_0_ok 19 rfl
theorem dX8_peak_34 : decode cX8_peak 34 = .ok (.aload_n 0, 1) := dd_all DX8_peak_0_ok 20 rfl
theorem dX8_peak_35 : decode cX8_peak 35 = .ok (.invokevirtual 110, 3) := dd_all DX8_peak_0_ok 21 rfl
theorem dX8_peak_38 : decode cX8_peak 38 = .ok (.aload_n 0, 1) := dd_all DX8_peak_0_ok 22 rfl
theorem dX8_peak_39 : decode cX8_peak 39 = .ok (.invokevirtual 113, 3) := dd_all DX8_peak_0_ok 23 rfl
theorem dX8_peak_42 : decode cX8_peak 42 = .ok (.iload_n 2, 1) := dd_all DX8_peak_0_ok 24 rfl
theorem dX8_peak_43 : decode cX8_peak 43 = .ok (.if_icmp .le 10, 3) := dd_all DX8_peak_0_ok 25 rfl
theorem dX8_peak_46 : decode cX8_peak 46 = .ok (.aload_n 0, 1) := dd_all DX8_peak_0_ok 26 rfl
theorem dX8_peak_47 : decode cX8_peak 47 = .ok (.invokevirtual 113, 3) := dd_all DX8_peak_0_ok 27 rfl
theorem dX8_peak_50 : decode cX8_peak 50 = .ok (.goto 4, 3) := dd_all DX8_peak_0_ok 28 rfl
theorem dX8_peak_53 : decode cX8_peak 53 = .ok (.iload_n 2, 1) := dd_all DX8_peak_0_ok 29 rfl
theorem dX8_peak_54 : decode cX8_peak 54 = .ok (.istore_n 2, 1) := dd_all DX8_peak_0_ok 30 rfl
theorem dX8_peak_55 : decode cX8_peak 55 = .ok (.iinc 3 1, 3) := dd_all DX8_peak_0_ok 31 rfl
theorem dX8_peak_58 : decode cX8_peak 58 = .ok (.goto (-29), 3) := dd_all DX8_peak_0_ok 32 rfl
theorem dX8_peak_61 : decode cX8_peak 61 = .ok (.aload_n 0, 1) := dd_all DX8_peak_0_ok 33 rfl
theorem dX8_peak_62 : decode cX8_peak 62 = .ok (.aload_n 0, 1) := dd_all DX8_peak_0_ok 34 rfl
theorem dX8_peak_63 : decode cX8_peak 63 = .ok (.getfield 16, 3) := dd_all DX8_peak_0_ok 35 rfl
theorem dX8_peak_66 : decode cX8_peak 66 = .ok (.aload_n 0, 1) := dd_all DX8_peak_0_ok 36 rfl
theorem dX8_peak_67 : decode cX8_peak 67 = .ok (.getfield 7, 3) := dd_all DX8_peak_0_ok 37 rfl
theorem dX8_peak_70 : decode cX8_peak 70 = .ok (.invokevirtual 137, 3) := dd_all DX8_peak_0_ok 38 rfl
theorem dX8_peak_73 : decode cX8_peak 73 = .ok (.iload_n 2, 1) := dd_all DX8_peak_0_ok 39 rfl
def DX8_peak_40 : List (Nat × Instr × Nat) := [(74, .ireturn, 1)]
theorem DX8_peak_40_ok : ∀ q ∈ DX8_peak_40, decode cX8_peak q.1 = .ok (q.2.1, q.2.2) := by decide +kernel
theorem dX8_peak_74 : decode cX8_peak 74 = .ok (.ireturn, 1) := dd_all DX8_peak_40_ok 0 rfl
def DX8_silence_0 : List (Nat × Instr × Nat) := [(0, .aload_n 0, 1), (1, .aload_n 0, 1), (2, .getfield 7, 3), (5, .aload_n 0, 1), (6, .getfield 16, 3), (9, .invokevirtual 137, 3), (12, .aload_n 0, 1), (13, .invokevirtual 82, 3), (16, .istore_n 1, 1), (17, .iconst 0, 1), (18, .istore_n 2, 1), (19, .iload_n 2, 1), (20, .aload_n 0, 1), (21, .getfield 7, 3), (24, .iconst 0, 1), (25, .iaload, 1), (26, .if_icmp .ge 57, 3), (29, .aload_n 0, 1), (30, .iload_n 2, 1), (31, .iconst 3, 1), (32, .invokevirtual 35, 3), (35, .iconst 1, 1), (36, .iconst 3, 1), (37, .invokestatic 39, 3), (40, .ifCond .eq 11, 3), (43, .aload_n 0, 1), (44, .iload_n 2, 1), (45, .invokevirtual 79, 3), (48, .iinc 1 1, 3), (51, .aload_n 0, 1), (52, .iload_n 2, 1), (53, .iconst 3, 1), (54, .aload_n 0, 1), (55, .iload_n 2, 1), (56, .iconst 3, 1), (57, .invokevirtual 35, 3), (60, .ifCond .ne 8, 3), (63, .bipush 6, 2), (65, .goto 9, 3), (68, .aload_n 0, 1)]
theorem DX8_silence_0_ok : ∀ q ∈ DX8_silence_0, decode cX8_silence q.1 = .ok (q.2.1, q.2.2) := by decide +kernel
theorem dX8_silence_0 : decode cX8_silence 0 = .ok (.aload_n 0, 1) := dd_all DX8_silence_0_ok 0 rfl
theorem dX8_silence_1 : decode cX8_silence 1 = .ok (.aload_n 0, 1) := dd_all DX8_silence_0_ok 1 rfl
theorem dX8_silence_2 : decode cX8_silence 2 = .ok (.getfield 7, 3) := dd_all DX8_silence_0_ok 2 rfl
theorem dX8_silence_5 : decode cX8_silence 5 = .ok (.aload_n 0, 1) := dd_all DX8_silence_0_ok 3 rfl
theorem dX8_silence_6 : decode cX8_silence 6 = .ok (.getfield 16, 3) := dd_all DX8_silence_0_ok 4 rfl
theorem dX8_silence_9 : decode cX8_silence 9 = .ok (.invokevirtual 137, 3) := dd_all DX8_silence_0_ok 5 rfl
theorem dX8_silence_12 : decode cX8_silence 12 = .ok (.aload_n 0, 1) := dd_all DX8_silence_0_ok 6 rfl
theorem dX8_silence_13 : decode cX8_silence 13 = .ok (.invokevirtual 82, 3) := dd_all DX8_silence_0_ok 7 rfl
theorem dX8_silence_16 : decode cX8_silence 16 = .ok (.istore_n 1, 1) := dd_all DX8_silence_0_ok 8 rfl
theorem dX8_silence_17 : decode cX8_silence 17 = .ok (.iconst 0, 1) := dd_all DX8_silence_0_ok 9 rfl
theorem dX8_silence_18 : decode cX8_silence 18 = .ok (.istore_n 2, 1) := dd_all DX8_silence_0_ok 10 rfl
theorem dX8_silence_19 : decode cX8_silence 19 = .ok (.iload_n 2, 1) := dd_all DX8_silence_0_ok 11 rfl
theorem dX8_silence_20 : decode cX8_silence 20 = .ok (.aload_n 0, 1) := dd_all DX8_silence_0_ok 12 rfl
theorem dX8_silence_21 : decode cX8_silence 21 = .ok (.getfield 7, 3) := dd_all DX8_silence_0_ok 13 rfl
theorem dX8_silence_24 : decode cX8_silence 24 = .ok (.iconst 0, 1) := dd_all DX8_silence_0_ok 14 rfl
theorem dX8_silence_25 : decode cX8_silence 25 = .ok (.iaload, 1) := dd_all DX8_silence_0_ok 15 rfl
theorem dX8_silence_26 : decode cX8_silence 26 = .ok (.if_icmp .ge 57, 3) := dd_all DX8_silence_0_ok 16 rfl
theorem dX8_silence_29 : decode cX8_silence 29 = .ok (.aload_n 0, 1) := dd_all DX8_silence_0_ok 17 rfl
theorem dX8_silence_30 : decode cX8_silence 30 = .ok (.iload_n 2, 1) := dd_all DX8_silence_0_ok 18 rfl
theorem dX8_silence_31 : decode cX8_silence 31 = .ok (.iconst 3, 1) := dd_all DX8_silence_0_ok 19 rfl
theorem dX8_silence_32 : decode cX8_silence 32 = .ok (.invokevirtual 35, 3) := dd_all DX8_silence_0_ok 20 rfl
theorem dX8_silence_35 : decode cX8_silence 35 = .ok (.iconst 1, 1) := dd_all DX8_silence_0_ok 21 rfl
theorem dX8_silence_36 : decode cX8_silence 36 = .ok (.iconst 3, 1) := dd_all DX8_silence_0_ok 22 rfl
theorem dX8_silence_37 : decode cX8_silence 37 = .ok (.invokestatic 39, 3) := dd_all DX8_silence_0_ok 23 rfl
theorem dX8_silence_40 : decode cX8_silence 40 = .ok (.ifCond .eq 11, 3) := dd_all DX8_silence_0_ok 24 rfl
theorem dX8_silence_43 : decode cX8_silence 43 = .ok (.aload_n 0, 1) := dd_all DX8_silence_0_ok 25 rfl
theorem dX8_silence_44 : decode cX8_silence 44 = .ok (.iload_n 2, 1) := dd_all DX8_silence_0_ok 26 rfl
theorem dX8_silence_45 : decode cX8_silence 45 = .ok (.invokevirtual 79, 3) := dd_all DX8_silence_0_ok 27 rfl
theorem dX8_silence_48 : decode cX8_silence 48 = .ok (.iinc 1 1, 3) := dd_all DX8_silence_0_ok 28 rfl
theorem dX8_silence_51 : decode cX8_silence 51 = .ok (.aload_n 0, 1) := dd_all DX8_silence_0_ok 29 rfl
theorem dX8_silence_52 : decode cX8_silence 52 = .ok (.iload_n 2, 1) := dd_all DX8_silence_0_ok 30 rfl
theorem dX8_silence_53 : decode cX8_silence 53 = .ok (.iconst 3, 1) := dd_all DX8_silence_0_ok 31 rfl
theorem dX8_silence_54 : decode cX8_silence 54 = .ok (.aload_n 0, 1) := dd_all DX8_silence_0_ok 32 rfl
theorem dX8_silence_55 : decode cX8_silence 55 = .ok (.iload_n 2, 1) := dd_all DX8_silence_0_ok 33 rfl
theorem dX8_silence_56 : decode cX8_silence 56 = .ok (.iconst 3, 1) := dd_all DX8_silence_0_ok 34 rfl
theorem dX8_silence_57 : decode cX8_silence 57 = .ok (.invokevirtual 35, 3) := dd_all DX8_silence_0_ok 35 rfl
theorem dX8_silence_60 : decode cX8_silence 60 = .ok (.ifCond .ne 8, 3) := dd_all DX8_silence_0_ok 36 rfl
theorem dX8_silence_63 : decode cX8_silence 63 = .ok (.bipush 6, 2) := dd_all DX8_silence_0_ok 37 rfl
theorem dX8_silence_65 : decode cX8_silence 65 = .ok (.goto 9, 3) := dd_all DX8_silence_0_ok 38 rfl
theorem dX8_silence_68 : decode cX8_silence 68 = .ok (.aload_n 0, 1) := dd_all DX8_silence_0_ok 39 rfl
def DX8_silence_40 : List (Nat × Instr × Nat) := [(69, .iload_n 2, 1), (70, .iconst 3, 1), (71, .invokevirtual 35, 3), (74, .invokevirtual 51, 3), (77, .iinc 2 1, 3), (80, .goto (-61), 3), (83, .iconst 0, 1), (84, .istore_n 2, 1), (85, .iload_n 1, 1), (86, .ifCond .lt 26, 3), (89, .aload_n 0, 1), (90, .invokevirtual 68, 3), (93, .aload_n 0, 1), (94, .iconst 5, 1), (95, .invokevirtual 55, 3), (98, .iadd, 1), (99, .ifCond .le 13, 3), (102, .aload_n 0, 1), (103, .invokevirtual 110, 3), (106, .iinc 2 1, 3), (109, .goto (-24), 3), (112, .aload_n 0, 1), (113, .aload_n 0, 1), (114, .getfield 16, 3), (117, .aload_n 0, 1), (118, .getfield 7, 3), (121, .invokevirtual 137, 3), (124, .iload_n 2, 1), (125, .ireturn, 1)]
theorem DX8_silence_40_ok : ∀ q ∈ DX8_silence_40, decode cX8_silence q.1 = .ok (q.2.1, q.2.2) := by decide +kernel
theorem dX8_silence_69 : decode cX8_silence 69 = .ok (.iload_n 2, 1) := dd_all DX8_silence_40_ok 0 rfl
theorem dX8_silence_70 : decode cX8_silence 70 = .ok (.iconst 3, 1) := dd_all DX8_silence_40_ok 1 rfl
theorem dX8_silence_71 : decode cX8_silence 71 = .ok (.invokevirtual 35, 3) := dd_all DX8_silence_40_ok 2 rfl
theorem dX8_silence_74 : decode cX8_silence 74 = .ok (.invokevirtual 51, 3) := dd_all DX8_silence_40_ok 3 rfl
theorem dX8_silence_77 : decode cX8_silence 77 = .ok (.iinc 2 1, 3) := dd_all DX8_silence_40_ok 4 rfl
theorem dX8_silence_80 : decode cX8_silence 80 = .ok (.goto (-61), 3) := dd_all DX8_silence_40_ok 5 rfl
theorem dX8_silence_83 : decode cX8_silence 83 = .ok (.iconst 0, 1) := dd_all DX8_silence_40_ok 6 rfl
theorem dX8_silence_84 : decode cX8_silence 84 = .ok (.istore_n 2, 1) := dd_all DX8_silence_40_ok 7 rfl
theorem dX8_silence_85 : decode cX8_silence 85 = .ok (.iload_n 1, 1) := dd_all DX8_silence_40_ok 8 rfl
theorem dX8_silence_86 : decode cX8_silence 86 = .ok (.ifCond .lt 26, 3) := dd_all DX8_silence_40_ok 9 rfl
theorem dX8_silence_89 : decode cX8_silence 89 = .ok (.aload_n 0, 1) := dd_all DX8_silence_40_ok 10 rfl
theorem dX8_silence_90 : decode cX8_silence 90 = .ok (.invokevirtual 68, 3) := dd_all DX8_silence_40_ok 11 rfl
theorem dX8_silence_93 : decode cX8_silence 93 = .ok (.aload_n 0, 1) := dd_all DX8_silence_40_ok 12 rfl
theorem dX8_silence_94 : decode cX8_silence 94 = .ok (.iconst 5, 1) := dd_all DX8_silence_40_ok 13 rfl
theorem dX8_silence_95 : decode cX8_silence 95 = .ok (.invokevirtual 55, 3) := dd_all DX8_silence_40_ok 14 rfl
theorem dX8_silence_98 : decode cX8_silence 98 = .ok (.iadd, 1) := dd_all DX8_silence_40_ok 15 rfl
theorem dX8_silence_99 : decode cX8_silence 99 = .ok (.ifCond .le 13, 3) := dd_all DX8_silence_40_ok 16 rfl
theorem dX8_silence_102 : decode cX8_silence 102 = .ok (.aload_n 0, 1) := dd_all DX8_silence_40_ok 17 rfl
theorem dX8_silence_103 : decode cX8_silence 103 = .ok (.invokevirtual 110, 3) := dd_all DX8_silence_40_ok 18 rfl
theorem dX8_silence_106 : decode cX8_silence 106 = .ok (.iinc 2 1, 3) := dd_all DX8_silence_40_ok 19 rfl
theorem dX8_silence_109 : decode cX8_silence 109 = .ok (.goto (-24), 3) := dd_all DX8_silence_40_ok 20 rfl
theorem dX8_silence_112 : decode cX8_silence 112 = .ok (.aload_n 0, 1) := dd_all DX8_silence_40_ok 21 rfl
theorem dX8_silence_113 : decode cX8_silence 113 = .ok (.aload_n 0, 1) := dd_all DX8_silence_40_ok 22 rfl
theorem dX8_silence_114 : decode cX8_silence 114 = .ok (.getfield 16, 3) := dd_all DX8_silence_40_ok 23 rfl
theorem dX8_silence_117 : decode cX8_silence 117 = .ok (.aload_n 0, 1) := dd_all DX8_silence_40_ok 24 rfl
theorem dX8_silence_118 : decode cX8_silence 118 = .ok (.getfield 7, 3) := dd_all DX8_silence_40_ok 25 rfl
theorem dX8_silence_121 : decode cX8_silence 121 = .ok (.invokevirtual 137, 3) := dd_all DX8_silence_40_ok 26 rfl
theorem dX8_silence_124 : decode cX8_silence 124 = .ok (.iload_n 2, 1) := dd_all DX8_silence_40_ok 27 rfl
theorem dX8_silence_125 : decode cX8_silence 125 = .ok (.ireturn, 1) := dd_all DX8_silence_40_ok 28 rfl
def DX8_freeIn_0 : List (Nat × Instr × Nat) := [(0, .aload_n 0, 1), (1, .aload_n 0, 1), (2, .getfield 7, 3), (5, .aload_n 0, 1), (6, .getfield 16, 3), (9, .invokevirtual 137, 3), (12, .iconst 0, 1), (13, .istore_n 1, 1), (14, .iload_n 1, 1), (15, .sipush 200, 3), (18, .if_icmp .gt 20, 3), (21, .aload_n 0, 1), (22, .invokevirtual 128, 3), (25, .ifCond .ne 13, 3), (28, .aload_n 0, 1), (29, .invokevirtual 110, 3), (32, .iinc 1 1, 3), (35, .goto (-21), 3), (38, .aload_n 0, 1), (39, .aload_n 0, 1), (40, .getfield 16, 3), (43, .aload_n 0, 1), (44, .getfield 7, 3), (47, .invokevirtual 137, 3), (50, .iload_n 1, 1), (51, .sipush 200, 3), (54, .if_icmp .le 8, 3), (57, .bipush (-4), 2), (59, .goto 4, 3), (62, .iload_n 1, 1), (63, .ireturn, 1)]
theorem DX8_freeIn_0_ok : ∀ q ∈ DX8_freeIn_0, decode cX8_freeIn q.1 = .ok (q.2.1, q.2.2) := by decide +kernel
theorem dX8_freeIn_0 : decode cX8_freeIn 0 = .ok (.aload_n 0, 1) := dd_all DX8_freeIn_0_ok 0 rfl
theorem dX8_freeIn_1 : decode cX8_freeIn 1 = .ok (.aload_n 0, 1) := dd_all DX8_freeIn_0_ok 1 rfl
theorem dX8_freeIn_2 : decode cX8_freeIn 2 = .ok (.getfield 7, 3) := dd_all DX8_freeIn_0_ok 2 rfl
theorem dX8_freeIn_5 : decode cX8_freeIn 5 = .ok (.aload_n 0, 1) := dd_all DX8_freeIn_0_ok 3 rfl
theorem dX8_freeIn_6 : decode cX8_freeIn 6 = .ok (.getfield 16, 3) := dd_all DX8_freeIn_0_ok 4 rfl
theorem dX8_freeIn_9 : decode cX8_freeIn 9 = .ok (.invokevirtual 137, 3) := dd_all DX8_freeIn_0_ok 5 rfl
theorem dX8_freeIn_12 : decode cX8_freeIn 12 = .ok (.iconst 0, 1) := dd_all DX8_freeIn_0_ok 6 rfl
theorem dX8_freeIn_13 : decode cX8_freeIn 13 = .ok (.istore_n 1, 1) := dd_all DX8_freeIn_0_ok 7 rfl
theorem dX8_freeIn_14 : decode cX8_freeIn 14 = .ok (.iload_n 1, 1) := dd_all DX8_freeIn_0_ok 8 rfl
theorem dX8_freeIn_15 : decode cX8_freeIn 15 = .ok (.sipush 200, 3) := dd_all DX8_freeIn_0_ok 9 rfl
theorem dX8_freeIn_18 : decode cX8_freeIn 18 = .ok (.if_icmp .gt 20, 3) := dd_all DX8_freeIn_0_ok 10 rfl
theorem dX8_freeIn_21 : decode cX8_freeIn 21 = .ok (.aload_n 0, 1) := dd_all DX8_freeIn_0_ok 11 rfl
theorem dX8_freeIn_22 : decode cX8_freeIn 22 = .ok (.invokevirtual 128, 3) := dd_all DX8_freeIn_0_ok 12 rfl
theorem dX8_freeIn_25 : decode cX8_freeIn 25 = .ok (.ifCond .ne 13, 3) := dd_all DX8_freeIn_0_ok 13 rfl
theorem dX8_freeIn_28 : decode cX8_freeIn 28 = .ok (.aload_n 0, 1) := dd_all DX8_freeIn_0_ok 14 rfl
theorem dX8_freeIn_29 : decode cX8_freeIn 29 = .ok (.invokevirtual 110, 3) := dd_all DX8_freeIn_0_ok 15 rfl
theorem dX8_freeIn_32 : decode cX8_freeIn 32 = .ok (.iinc 1 1, 3) := dd_all DX8_freeIn_0_ok 16 rfl
theorem dX8_freeIn_35 : decode cX8_freeIn 35 = .ok (.goto (-21), 3) := dd_all DX8_freeIn_0_ok 17 rfl
theorem dX8_freeIn_38 : decode cX8_freeIn 38 = .ok (.aload_n 0, 1) := dd_all DX8_freeIn_0_ok 18 rfl
theorem dX8_freeIn_39 : decode cX8_freeIn 39 = .ok (.aload_n 0, 1) := dd_all DX8_freeIn_0_ok 19 rfl
theorem dX8_freeIn_40 : decode cX8_freeIn 40 = .ok (.getfield 16, 3) := dd_all DX8_freeIn_0_ok 20 rfl
theorem dX8_freeIn_43 : decode cX8_freeIn 43 = .ok (.aload_n 0, 1) := dd_all DX8_freeIn_0_ok 21 rfl
theorem dX8_freeIn_44 : decode cX8_freeIn 44 = .ok (.getfield 7, 3) := dd_all DX8_freeIn_0_ok 22 rfl
theorem dX8_freeIn_47 : decode cX8_freeIn 47 = .ok (.invokevirtual 137, 3) := dd_all DX8_freeIn_0_ok 23 rfl
theorem dX8_freeIn_50 : decode cX8_freeIn 50 = .ok (.iload_n 1, 1) := dd_all DX8_freeIn_0_ok 24 rfl
theorem dX8_freeIn_51 : decode cX8_freeIn 51 = .ok (.sipush 200, 3) := dd_all DX8_freeIn_0_ok 25 rfl
theorem dX8_freeIn_54 : decode cX8_freeIn 54 = .ok (.if_icmp .le 8, 3) := dd_all DX8_freeIn_0_ok 26 rfl
theorem dX8_freeIn_57 : decode cX8_freeIn 57 = .ok (.bipush (-4), 2) := dd_all DX8_freeIn_0_ok 27 rfl
theorem dX8_freeIn_59 : decode cX8_freeIn 59 = .ok (.goto 4, 3) := dd_all DX8_freeIn_0_ok 28 rfl
theorem dX8_freeIn_62 : decode cX8_freeIn 62 = .ok (.iload_n 1, 1) := dd_all DX8_freeIn_0_ok 29 rfl
theorem dX8_freeIn_63 : decode cX8_freeIn 63 = .ok (.ireturn, 1) := dd_all DX8_freeIn_0_ok 30 rfl
def DX8_undo_0 : List (Nat × Instr × Nat) := [(0, .aload_n 0, 1), (1, .getfield 31, 3), (4, .ifCond .ne 6, 3), (7, .bipush (-2), 2), (9, .ireturn, 1), (10, .aload_n 0, 1), (11, .dup, 1), (12, .getfield 31, 3), (15, .iconst 1, 1), (16, .isub, 1), (17, .putfield 31, 3), (20, .iconst 0, 1), (21, .istore_n 1, 1), (22, .iload_n 1, 1), (23, .sipush 1670, 3), (26, .if_icmp .ge 30, 3), (29, .aload_n 0, 1), (30, .getfield 7, 3), (33, .iload_n 1, 1), (34, .aload_n 0, 1), (35, .getfield 13, 3), (38, .sipush 1670, 3), (41, .aload_n 0, 1), (42, .getfield 31, 3), (45, .imul, 1), (46, .iload_n 1, 1), (47, .iadd, 1), (48, .iaload, 1), (49, .iastore, 1), (50, .iinc 1 1, 3), (53, .goto (-31), 3), (56, .aload_n 0, 1), (57, .getfield 31, 3), (60, .ireturn, 1)]
theorem DX8_undo_0_ok : ∀ q ∈ DX8_undo_0, decode cX8_undo q.1 = .ok (q.2.1, q.2.2) := by decide +kernel
theorem dX8_undo_0 : decode cX8_undo 0 = .ok (.aload_n 0, 1) := dd_all DX8_undo_0_ok 0 rfl
theorem dX8_undo_1 : decode cX8_undo 1 = .ok (.getfield 31, 3) := dd_all DX8_undo_0_ok 1 rfl
theorem dX8_undo_4 : decode cX8_undo 4 = .ok (.ifCond .ne 6, 3) := dd_all DX8_undo_0_ok 2 rfl
theorem dX8_undo_7 : decode cX8_undo 7 = .ok (.bipush (-2), 2) := dd_all DX8_undo_0_ok 3 rfl
theorem dX8_undo_9 : decode cX8_undo 9 = .ok (.ireturn, 1) := dd_all DX8_undo_0_ok 4 rfl
theorem dX8_undo_10 : decode cX8_undo 10 = .ok (.aload_n 0, 1) := dd_all DX8_undo_0_ok 5 rfl
theorem dX8_undo_11 : decode cX8_undo 11 = .ok (.dup, 1) := dd_all DX8_undo_0_ok 6 rfl
theorem dX8_undo_12 : decode cX8_undo 12 = .ok (.getfield 31, 3) := dd_all DX8_undo_0_ok 7 rfl
theorem dX8_undo_15 : decode cX8_undo 15 = .ok (.iconst 1, 1) := dd_all DX8_undo_0_ok 8 rfl
theorem dX8_undo_16 : decode cX8_undo 16 = .ok (.isub, 1) := dd_all DX8_undo_0_ok 9 rfl
theorem dX8_undo_17 : decode cX8_undo 17 = .ok (.putfield 31, 3) := dd_all DX8_undo_0_ok 10 rfl
theorem dX8_undo_20 : decode cX8_undo 20 = .ok (.iconst 0, 1) := dd_all DX8_undo_0_ok 11 rfl
theorem dX8_undo_21 : decode cX8_undo 21 = .ok (.istore_n 1, 1) := dd_all DX8_undo_0_ok 12 rfl
theorem dX8_undo_22 : decode cX8_undo 22 = .ok (.iload_n 1, 1) := dd_all DX8_undo_0_ok 13 rfl
theorem dX8_undo_23 : decode cX8_undo 23 = .ok (.sipush 1670, 3) := dd_all DX8_undo_0_ok 14 rfl
theorem dX8_undo_26 : decode cX8_undo 26 = .ok (.if_icmp .ge 30, 3) := dd_all DX8_undo_0_ok 15 rfl
theorem dX8_undo_29 : decode cX8_undo 29 = .ok (.aload_n 0, 1) := dd_all DX8_undo_0_ok 16 rfl
theorem dX8_undo_30 : decode cX8_undo 30 = .ok (.getfield 7, 3) := dd_all DX8_undo_0_ok 17 rfl
theorem dX8_undo_33 : decode cX8_undo 33 = .ok (.iload_n 1, 1) := dd_all DX8_undo_0_ok 18 rfl
theorem dX8_undo_34 : decode cX8_undo 34 = .ok (.aload_n 0, 1) := dd_all DX8_undo_0_ok 19 rfl
theorem dX8_undo_35 : decode cX8_undo 35 = .ok (.getfield 13, 3) := dd_all DX8_undo_0_ok 20 rfl
theorem dX8_undo_38 : decode cX8_undo 38 = .ok (.sipush 1670, 3) := dd_all DX8_undo_0_ok 21 rfl
theorem dX8_undo_41 : decode cX8_undo 41 = .ok (.aload_n 0, 1) := dd_all DX8_undo_0_ok 22 rfl
theorem dX8_undo_42 : decode cX8_undo 42 = .ok (.getfield 31, 3) := dd_all DX8_undo_0_ok 23 rfl
theorem dX8_undo_45 : decode cX8_undo 45 = .ok (.imul, 1) := dd_all DX8_undo_0_ok 24 rfl
theorem dX8_undo_46 : decode cX8_undo 46 = .ok (.iload_n 1, 1) := dd_all DX8_undo_0_ok 25 rfl
theorem dX8_undo_47 : decode cX8_undo 47 = .ok (.iadd, 1) := dd_all DX8_undo_0_ok 26 rfl
theorem dX8_undo_48 : decode cX8_undo 48 = .ok (.iaload, 1) := dd_all DX8_undo_0_ok 27 rfl
theorem dX8_undo_49 : decode cX8_undo 49 = .ok (.iastore, 1) := dd_all DX8_undo_0_ok 28 rfl
theorem dX8_undo_50 : decode cX8_undo 50 = .ok (.iinc 1 1, 3) := dd_all DX8_undo_0_ok 29 rfl
theorem dX8_undo_53 : decode cX8_undo 53 = .ok (.goto (-31), 3) := dd_all DX8_undo_0_ok 30 rfl
theorem dX8_undo_56 : decode cX8_undo 56 = .ok (.aload_n 0, 1) := dd_all DX8_undo_0_ok 31 rfl
theorem dX8_undo_57 : decode cX8_undo 57 = .ok (.getfield 31, 3) := dd_all DX8_undo_0_ok 32 rfl
theorem dX8_undo_60 : decode cX8_undo 60 = .ok (.ireturn, 1) := dd_all DX8_undo_0_ok 33 rfl
def DX8_type_0 : List (Nat × Instr × Nat) := [(0, .iload_n 1, 1), (1, .bipush 32, 2), (3, .bipush 126, 2), (5, .invokestatic 39, 3), (8, .ifCond .ne 5, 3), (11, .iconst (-1), 1), (12, .ireturn, 1), (13, .aload_n 0, 1), (14, .getfield 134, 3), (17, .bipush 60, 2), (19, .if_icmp .ne 6, 3), (22, .bipush (-3), 2), (24, .ireturn, 1), (25, .aload_n 0, 1), (26, .getfield 19, 3), (29, .aload_n 0, 1), (30, .getfield 134, 3), (33, .iload_n 1, 1), (34, .iastore, 1), (35, .aload_n 0, 1), (36, .dup, 1), (37, .getfield 134, 3), (40, .iconst 1, 1), (41, .iadd, 1), (42, .putfield 134, 3), (45, .aload_n 0, 1), (46, .getfield 134, 3), (49, .ireturn, 1)]
theorem DX8_type_0_ok : ∀ q ∈ DX8_type_0, decode cX8_type q.1 = .ok (q.2.1, q.2.2) := by decide +kernel
theorem dX8_type_0 : decode cX8_type 0 = .ok (.iload_n 1, 1) := dd_all DX8_type_0_ok 0 rfl
theorem dX8_type_1 : decode cX8_type 1 = .ok (.bipush 32, 2) := dd_all DX8_type_0_ok 1 rfl
theorem dX8_type_3 : decode cX8_type 3 = .ok (.bipush 126, 2) := dd_all DX8_type_0_ok 2 rfl
theorem dX8_type_5 : decode cX8_type 5 = .ok (.invokestatic 39, 3) := dd_all DX8_type_0_ok 3 rfl
theorem dX8_type_8 : decode cX8_type 8 = .ok (.ifCond .ne 5, 3) := dd_all DX8_type_0_ok 4 rfl
theorem dX8_type_11 : decode cX8_type 11 = .ok (.iconst (-1), 1) := dd_all DX8_type_0_ok 5 rfl
theorem dX8_type_12 : decode cX8_type 12 = .ok (.ireturn, 1) := dd_all DX8_type_0_ok 6 rfl
theorem dX8_type_13 : decode cX8_type 13 = .ok (.aload_n 0, 1) := dd_all DX8_type_0_ok 7 rfl
theorem dX8_type_14 : decode cX8_type 14 = .ok (.getfield 134, 3) := dd_all DX8_type_0_ok 8 rfl
theorem dX8_type_17 : decode cX8_type 17 = .ok (.bipush 60, 2) := dd_all DX8_type_0_ok 9 rfl
theorem dX8_type_19 : decode cX8_type 19 = .ok (.if_icmp .ne 6, 3) := dd_all DX8_type_0_ok 10 rfl
theorem dX8_type_22 : decode cX8_type 22 = .ok (.bipush (-3), 2) := dd_all DX8_type_0_ok 11 rfl
theorem dX8_type_24 : decode cX8_type 24 = .ok (.ireturn, 1) := dd_all DX8_type_0_ok 12 rfl
theorem dX8_type_25 : decode cX8_type 25 = .ok (.aload_n 0, 1) := dd_all DX8_type_0_ok 13 rfl
theorem dX8_type_26 : decode cX8_type 26 = .ok (.getfield 19, 3) := dd_all DX8_type_0_ok 14 rfl
theorem dX8_type_29 : decode cX8_type 29 = .ok (.aload_n 0, 1) := dd_all DX8_type_0_ok 15 rfl
theorem dX8_type_30 : decode cX8_type 30 = .ok (.getfield 134, 3) := dd_all DX8_type_0_ok 16 rfl
theorem dX8_type_33 : decode cX8_type 33 = .ok (.iload_n 1, 1) := dd_all DX8_type_0_ok 17 rfl
theorem dX8_type_34 : decode cX8_type 34 = .ok (.iastore, 1) := dd_all DX8_type_0_ok 18 rfl
theorem dX8_type_35 : decode cX8_type 35 = .ok (.aload_n 0, 1) := dd_all DX8_type_0_ok 19 rfl
theorem dX8_type_36 : decode cX8_type 36 = .ok (.dup, 1) := dd_all DX8_type_0_ok 20 rfl
theorem dX8_type_37 : decode cX8_type 37 = .ok (.getfield 134, 3) := dd_all DX8_type_0_ok 21 rfl
theorem dX8_type_40 : decode cX8_type 40 = .ok (.iconst 1, 1) := dd_all DX8_type_0_ok 22 rfl
theorem dX8_type_41 : decode cX8_type 41 = .ok (.iadd, 1) := dd_all DX8_type_0_ok 23 rfl
theorem dX8_type_42 : decode cX8_type 42 = .ok (.putfield 134, 3) := dd_all DX8_type_0_ok 24 rfl
theorem dX8_type_45 : decode cX8_type 45 = .ok (.aload_n 0, 1) := dd_all DX8_type_0_ok 25 rfl
theorem dX8_type_46 : decode cX8_type 46 = .ok (.getfield 134, 3) := dd_all DX8_type_0_ok 26 rfl
theorem dX8_type_49 : decode cX8_type 49 = .ok (.ireturn, 1) := dd_all DX8_type_0_ok 27 rfl
def DX8_clearText_0 : List (Nat × Instr × Nat) := [(0, .aload_n 0, 1), (1, .getfield 134, 3), (4, .istore_n 1, 1), (5, .aload_n 0, 1), (6, .iconst 0, 1), (7, .putfield 134, 3), (10, .iload_n 1, 1), (11, .ireturn, 1)]
theorem DX8_clearText_0_ok : ∀ q ∈ DX8_clearText_0, decode cX8_clearText q.1 = .ok (q.2.1, q.2.2) := by decide +kernel
theorem dX8_clearText_0 : decode cX8_clearText 0 = .ok (.aload_n 0, 1) := dd_all DX8_clearText_0_ok 0 rfl
theorem dX8_clearText_1 : decode cX8_clearText 1 = .ok (.getfield 134, 3) := dd_all DX8_clearText_0_ok 1 rfl
theorem dX8_clearText_4 : decode cX8_clearText 4 = .ok (.istore_n 1, 1) := dd_all DX8_clearText_0_ok 2 rfl
theorem dX8_clearText_5 : decode cX8_clearText 5 = .ok (.aload_n 0, 1) := dd_all DX8_clearText_0_ok 3 rfl
theorem dX8_clearText_6 : decode cX8_clearText 6 = .ok (.iconst 0, 1) := dd_all DX8_clearText_0_ok 4 rfl
theorem dX8_clearText_7 : decode cX8_clearText 7 = .ok (.putfield 134, 3) := dd_all DX8_clearText_0_ok 5 rfl
theorem dX8_clearText_10 : decode cX8_clearText 10 = .ok (.iload_n 1, 1) := dd_all DX8_clearText_0_ok 6 rfl
theorem dX8_clearText_11 : decode cX8_clearText 11 = .ok (.ireturn, 1) := dd_all DX8_clearText_0_ok 7 rfl
def DX8_partBy_0 : List (Nat × Instr × Nat) := [(0, .iload_n 0, 1), (1, .bipush 115, 2), (3, .if_icmp .ne 7, 3), (6, .iconst 0, 1), (7, .goto 35, 3), (10, .iload_n 0, 1), (11, .bipush 97, 2), (13, .if_icmp .ne 7, 3), (16, .iconst 1, 1), (17, .goto 25, 3), (20, .iload_n 0, 1), (21, .bipush 116, 2), (23, .if_icmp .ne 7, 3), (26, .iconst 2, 1), (27, .goto 15, 3), (30, .iload_n 0, 1), (31, .bipush 98, 2), (33, .if_icmp .ne 7, 3), (36, .iconst 3, 1), (37, .goto 5, 3), (40, .bipush (-4), 2), (42, .ireturn, 1)]
theorem DX8_partBy_0_ok : ∀ q ∈ DX8_partBy_0, decode cX8_partBy q.1 = .ok (q.2.1, q.2.2) := by decide +kernel
theorem dX8_partBy_0 : decode cX8_partBy 0 = .ok (.iload_n 0, 1) := dd_all DX8_partBy_0_ok 0 rfl
theorem dX8_partBy_1 : decode cX8_partBy 1 = .ok (.bipush 115, 2) := dd_all DX8_partBy_0_ok 1 rfl
theorem dX8_partBy_3 : decode cX8_partBy 3 = .ok (.if_icmp .ne 7, 3) := dd_all DX8_partBy_0_ok 2 rfl
theorem dX8_partBy_6 : decode cX8_partBy 6 = .ok (.iconst 0, 1) := dd_all DX8_partBy_0_ok 3 rfl
theorem dX8_partBy_7 : decode cX8_partBy 7 = .ok (.goto 35, 3) := dd_all DX8_partBy_0_ok 4 rfl
theorem dX8_partBy_10 : decode cX8_partBy 10 = .ok (.iload_n 0, 1) := dd_all DX8_partBy_0_ok 5 rfl
theorem dX8_partBy_11 : decode cX8_partBy 11 = .ok (.bipush 97, 2) := dd_all DX8_partBy_0_ok 6 rfl
theorem dX8_partBy_13 : decode cX8_partBy 13 = .ok (.if_icmp .ne 7, 3) := dd_all DX8_partBy_0_ok 7 rfl
theorem dX8_partBy_16 : decode cX8_partBy 16 = .ok (.iconst 1, 1) := dd_all DX8_partBy_0_ok 8 rfl
theorem dX8_partBy_17 : decode cX8_partBy 17 = .ok (.goto 25, 3) := dd_all DX8_partBy_0_ok 9 rfl
theorem dX8_partBy_20 : decode cX8_partBy 20 = .ok (.iload_n 0, 1) := dd_all DX8_partBy_0_ok 10 rfl
theorem dX8_partBy_21 : decode cX8_partBy 21 = .ok (.bipush 116, 2) := dd_all DX8_partBy_0_ok 11 rfl
theorem dX8_partBy_23 : decode cX8_partBy 23 = .ok (.if_icmp .ne 7, 3) := dd_all DX8_partBy_0_ok 12 rfl
theorem dX8_partBy_26 : decode cX8_partBy 26 = .ok (.iconst 2, 1) := dd_all DX8_partBy_0_ok 13 rfl
theorem dX8_partBy_27 : decode cX8_partBy 27 = .ok (.goto 15, 3) := dd_all DX8_partBy_0_ok 14 rfl
theorem dX8_partBy_30 : decode cX8_partBy 30 = .ok (.iload_n 0, 1) := dd_all DX8_partBy_0_ok 15 rfl
theorem dX8_partBy_31 : decode cX8_partBy 31 = .ok (.bipush 98, 2) := dd_all DX8_partBy_0_ok 16 rfl
theorem dX8_partBy_33 : decode cX8_partBy 33 = .ok (.if_icmp .ne 7, 3) := dd_all DX8_partBy_0_ok 17 rfl
theorem dX8_partBy_36 : decode cX8_partBy 36 = .ok (.iconst 3, 1) := dd_all DX8_partBy_0_ok 18 rfl
theorem dX8_partBy_37 : decode cX8_partBy 37 = .ok (.goto 5, 3) := dd_all DX8_partBy_0_ok 19 rfl
theorem dX8_partBy_40 : decode cX8_partBy 40 = .ok (.bipush (-4), 2) := dd_all DX8_partBy_0_ok 20 rfl
theorem dX8_partBy_42 : decode cX8_partBy 42 = .ok (.ireturn, 1) := dd_all DX8_partBy_0_ok 21 rfl
def DX8_faultAt_0 : List (Nat × Instr × Nat) := [(0, .iconst 0, 1), (1, .istore_n 1, 1), (2, .iconst 0, 1), (3, .istore_n 2, 1), (4, .iconst 0, 1), (5, .istore_n 3, 1), (6, .iload_n 3, 1), (7, .aload_n 0, 1), (8, .getfield 134, 3), (11, .if_icmp .ge 172, 3), (14, .aload_n 0, 1), (15, .getfield 19, 3), (18, .iload_n 3, 1), (19, .iaload, 1), (20, .istore 4, 2), (22, .aload_n 0, 1), (23, .iconst 1, 1), (24, .putfield 141, 3), (27, .iload_n 2, 1), (28, .ifCond .ne 71, 3), (31, .iload 4, 2), (33, .bipush 40, 2), (35, .if_icmp .ne 16, 3), (38, .iload_n 1, 1), (39, .bipush 6, 2), (41, .if_icmp .ne 10, 3), (44, .aload_n 0, 1), (45, .iconst 2, 1), (46, .putfield 141, 3), (49, .iload_n 3, 1), (50, .ireturn, 1), (51, .iload 4, 2), (53, .bipush 40, 2), (55, .if_icmp .eq 13, 3), (58, .iload 4, 2), (60, .invokestatic 144, 3), (63, .ifCond .ge 5, 3), (66, .iload_n 3, 1), (67, .ireturn, 1), (68, .iload_n 1, 1)]
theorem DX8_faultAt_0_ok : ∀ q ∈ DX8_faultAt_0, decode cX8_faultAt q.1 = .ok (q.2.1, q.2.2) := by decide +kernel
theorem dX8_faultAt_0 : decode cX8_faultAt 0 = .ok (.iconst 0, 1) := dd_all DX8_faultAt_0_ok 0 rfl
theorem dX8_faultAt_1 : decode cX8_faultAt 1 = .ok (.istore_n 1, 1) := dd_all DX8_faultAt_0_ok 1 rfl
theorem dX8_faultAt_2 : decode cX8_faultAt 2 = .ok (.iconst 0, 1) := dd_all DX8_faultAt_0_ok 2 rfl
theorem dX8_faultAt_3 : decode cX8_faultAt 3 = .ok (.istore_n 2, 1) := dd_all DX8_faultAt_0_ok 3 rfl
theorem dX8_faultAt_4 : decode cX8_faultAt 4 = .ok (.iconst 0, 1) := dd_all DX8_faultAt_0_ok 4 rfl
theorem dX8_faultAt_5 : decode cX8_faultAt 5 = .ok (.istore_n 3, 1) := dd_all DX8_faultAt_0_ok 5 rfl
theorem dX8_faultAt_6 : decode cX8_faultAt 6 = .ok (.iload_n 3, 1) := dd_all DX8_faultAt_0_ok 6 rfl
theorem dX8_faultAt_7 : decode cX8_faultAt 7 = .ok (.aload_n 0, 1) := dd_all DX8_faultAt_0_ok 7 rfl
theorem dX8_faultAt_8 : decode cX8_faultAt 8 = .ok (.getfield 134, 3) := dd_all DX8_faultAt_0_ok 8 rfl
theorem dX8_faultAt_11 : decode cX8_faultAt 11 = .ok (.if_icmp .ge 172, 3) := dd_all DX8_faultAt_0_ok 9 rfl
theorem dX8_faultAt_14 : decode cX8_faultAt 14 = .ok (.aload_n 0, 1) := dd_all DX8_faultAt_0_ok 10 rfl
theorem dX8_faultAt_15 : decode cX8_faultAt 15 = .ok (.getfield 19, 3) := dd_all DX8_faultAt_0_ok 11 rfl
theorem dX8_faultAt_18 : decode cX8_faultAt 18 = .ok (.iload_n 3, 1) := dd_all DX8_faultAt_0_ok 12 rfl
theorem dX8_faultAt_19 : decode cX8_faultAt 19 = .ok (.iaload, 1) := dd_all DX8_faultAt_0_ok 13 rfl
theorem dX8_faultAt_20 : decode cX8_faultAt 20 = .ok (.istore 4, 2) := dd_all DX8_faultAt_0_ok 14 rfl
theorem dX8_faultAt_22 : decode cX8_faultAt 22 = .ok (.aload_n 0, 1) := dd_all DX8_faultAt_0_ok 15 rfl
theorem dX8_faultAt_23 : decode cX8_faultAt 23 = .ok (.iconst 1, 1) := dd_all DX8_faultAt_0_ok 16 rfl
theorem dX8_faultAt_24 : decode cX8_faultAt 24 = .ok (.putfield 141, 3) := dd_all DX8_faultAt_0_ok 17 rfl
theorem dX8_faultAt_27 : decode cX8_faultAt 27 = .ok (.iload_n 2, 1) := dd_all DX8_faultAt_0_ok 18 rfl
theorem dX8_faultAt_28 : decode cX8_faultAt 28 = .ok (.ifCond .ne 71, 3) := dd_all DX8_faultAt_0_ok 19 rfl
theorem dX8_faultAt_31 : decode cX8_faultAt 31 = .ok (.iload 4, 2) := dd_all DX8_faultAt_0_ok 20 rfl
theorem dX8_faultAt_33 : decode cX8_faultAt 33 = .ok (.bipush 40, 2) := dd_all DX8_faultAt_0_ok 21 rfl
theorem dX8_faultAt_35 : decode cX8_faultAt 35 = .ok (.if_icmp .ne 16, 3) := dd_all DX8_faultAt_0_ok 22 rfl
theorem dX8_faultAt_38 : decode cX8_faultAt 38 = .ok (.iload_n 1, 1) := dd_all DX8_faultAt_0_ok 23 rfl
theorem dX8_faultAt_39 : decode cX8_faultAt 39 = .ok (.bipush 6, 2) := dd_all DX8_faultAt_0_ok 24 rfl
theorem dX8_faultAt_41 : decode cX8_faultAt 41 = .ok (.if_icmp .ne 10, 3) := dd_all DX8_faultAt_0_ok 25 rfl
theorem dX8_faultAt_44 : decode cX8_faultAt 44 = .ok (.aload_n 0, 1) := dd_all DX8_faultAt_0_ok 26 rfl
theorem dX8_faultAt_45 : decode cX8_faultAt 45 = .ok (.iconst 2, 1) := dd_all DX8_faultAt_0_ok 27 rfl
theorem dX8_faultAt_46 : decode cX8_faultAt 46 = .ok (.putfield 141, 3) := dd_all DX8_faultAt_0_ok 28 rfl
theorem dX8_faultAt_49 : decode cX8_faultAt 49 = .ok (.iload_n 3, 1) := dd_all DX8_faultAt_0_ok 29 rfl
theorem dX8_faultAt_50 : decode cX8_faultAt 50 = .ok (.ireturn, 1) := dd_all DX8_faultAt_0_ok 30 rfl
theorem dX8_faultAt_51 : decode cX8_faultAt 51 = .ok (.iload 4, 2) := dd_all DX8_faultAt_0_ok 31 rfl
theorem dX8_faultAt_53 : decode cX8_faultAt 53 = .ok (.bipush 40, 2) := dd_all DX8_faultAt_0_ok 32 rfl
theorem dX8_faultAt_55 : decode cX8_faultAt 55 = .ok (.if_icmp .eq 13, 3) := dd_all DX8_faultAt_0_ok 33 rfl
theorem dX8_faultAt_58 : decode cX8_faultAt 58 = .ok (.iload 4, 2) := dd_all DX8_faultAt_0_ok 34 rfl
theorem dX8_faultAt_60 : decode cX8_faultAt 60 = .ok (.invokestatic 144, 3) := dd_all DX8_faultAt_0_ok 35 rfl
theorem dX8_faultAt_63 : decode cX8_faultAt 63 = .ok (.ifCond .ge 5, 3) := dd_all DX8_faultAt_0_ok 36 rfl
theorem dX8_faultAt_66 : decode cX8_faultAt 66 = .ok (.iload_n 3, 1) := dd_all DX8_faultAt_0_ok 37 rfl
theorem dX8_faultAt_67 : decode cX8_faultAt 67 = .ok (.ireturn, 1) := dd_all DX8_faultAt_0_ok 38 rfl
theorem dX8_faultAt_68 : decode cX8_faultAt 68 = .ok (.iload_n 1, 1) := dd_all DX8_faultAt_0_ok 39 rfl
def DX8_faultAt_40 : List (Nat × Instr × Nat) := [(69, .iload 4, 2), (71, .bipush 40, 2), (73, .if_icmp .ne 7, 3), (76, .iconst 1, 1), (77, .goto 4, 3), (80, .iconst 0, 1), (81, .iadd, 1), (82, .istore_n 1, 1), (83, .iload 4, 2), (85, .bipush 40, 2), (87, .if_icmp .ne 7, 3), (90, .iconst 0, 1), (91, .goto 4, 3), (94, .iconst 1, 1), (95, .istore_n 2, 1), (96, .goto 81, 3), (99, .iload_n 2, 1), (100, .iconst 2, 1), (101, .if_icmp .ne 22, 3), (104, .iload 4, 2), (106, .bipush 48, 2), (108, .bipush 57, 2), (110, .invokestatic 39, 3), (113, .ifCond .ne 5, 3), (116, .iload_n 3, 1), (117, .ireturn, 1), (118, .iconst 3, 1), (119, .istore_n 2, 1), (120, .goto 57, 3), (123, .iload 4, 2), (125, .bipush 41, 2), (127, .if_icmp .ne 15, 3), (130, .iload_n 1, 1), (131, .ifCond .le 11, 3), (134, .iinc 1 (-1), 3), (137, .iconst 1, 1), (138, .istore_n 2, 1), (139, .goto 38, 3), (142, .iload 4, 2), (144, .bipush 42, 2)]
theorem DX8_faultAt_40_ok : ∀ q ∈ DX8_faultAt_40, decode cX8_faultAt q.1 = .ok (q.2.1, q.2.2) := by decide +kernel
theorem dX8_faultAt_69 : decode cX8_faultAt 69 = .ok (.iload 4, 2) := dd_all DX8_faultAt_40_ok 0 rfl
theorem dX8_faultAt_71 : decode cX8_faultAt 71 = .ok (.bipush 40, 2) := dd_all DX8_faultAt_40_ok 1 rfl
theorem dX8_faultAt_73 : decode cX8_faultAt 73 = .ok (.if_icmp .ne 7, 3) := dd_all DX8_faultAt_40_ok 2 rfl
theorem dX8_faultAt_76 : decode cX8_faultAt 76 = .ok (.iconst 1, 1) := dd_all DX8_faultAt_40_ok 3 rfl
theorem dX8_faultAt_77 : decode cX8_faultAt 77 = .ok (.goto 4, 3) := dd_all DX8_faultAt_40_ok 4 rfl
theorem dX8_faultAt_80 : decode cX8_faultAt 80 = .ok (.iconst 0, 1) := dd_all DX8_faultAt_40_ok 5 rfl
theorem dX8_faultAt_81 : decode cX8_faultAt 81 = .ok (.iadd, 1) := dd_all DX8_faultAt_40_ok 6 rfl
theorem dX8_faultAt_82 : decode cX8_faultAt 82 = .ok (.istore_n 1, 1) := dd_all DX8_faultAt_40_ok 7 rfl
theorem dX8_faultAt_83 : decode cX8_faultAt 83 = .ok (.iload 4, 2) := dd_all DX8_faultAt_40_ok 8 rfl
theorem dX8_faultAt_85 : decode cX8_faultAt 85 = .ok (.bipush 40, 2) := dd_all DX8_faultAt_40_ok 9 rfl
theorem dX8_faultAt_87 : decode cX8_faultAt 87 = .ok (.if_icmp .ne 7, 3) := dd_all DX8_faultAt_40_ok 10 rfl
theorem dX8_faultAt_90 : decode cX8_faultAt 90 = .ok (.iconst 0, 1) := dd_all DX8_faultAt_40_ok 11 rfl
theorem dX8_faultAt_91 : decode cX8_faultAt 91 = .ok (.goto 4, 3) := dd_all DX8_faultAt_40_ok 12 rfl
theorem dX8_faultAt_94 : decode cX8_faultAt 94 = .ok (.iconst 1, 1) := dd_all DX8_faultAt_40_ok 13 rfl
theorem dX8_faultAt_95 : decode cX8_faultAt 95 = .ok (.istore_n 2, 1) := dd_all DX8_faultAt_40_ok 14 rfl
theorem dX8_faultAt_96 : decode cX8_faultAt 96 = .ok (.goto 81, 3) := dd_all DX8_faultAt_40_ok 15 rfl
theorem dX8_faultAt_99 : decode cX8_faultAt 99 = .ok (.iload_n 2, 1) := dd_all DX8_faultAt_40_ok 16 rfl
theorem dX8_faultAt_100 : decode cX8_faultAt 100 = .ok (.iconst 2, 1) := dd_all DX8_faultAt_40_ok 17 rfl
theorem dX8_faultAt_101 : decode cX8_faultAt 101 = .ok (.if_icmp .ne 22, 3) := dd_all DX8_faultAt_40_ok 18 rfl
theorem dX8_faultAt_104 : decode cX8_faultAt 104 = .ok (.iload 4, 2) := dd_all DX8_faultAt_40_ok 19 rfl
theorem dX8_faultAt_106 : decode cX8_faultAt 106 = .ok (.bipush 48, 2) := dd_all DX8_faultAt_40_ok 20 rfl
theorem dX8_faultAt_108 : decode cX8_faultAt 108 = .ok (.bipush 57, 2) := dd_all DX8_faultAt_40_ok 21 rfl
theorem dX8_faultAt_110 : decode cX8_faultAt 110 = .ok (.invokestatic 39, 3) := dd_all DX8_faultAt_40_ok 22 rfl
theorem dX8_faultAt_113 : decode cX8_faultAt 113 = .ok (.ifCond .ne 5, 3) := dd_all DX8_faultAt_40_ok 23 rfl
theorem dX8_faultAt_116 : decode cX8_faultAt 116 = .ok (.iload_n 3, 1) := dd_all DX8_faultAt_40_ok 24 rfl
theorem dX8_faultAt_117 : decode cX8_faultAt 117 = .ok (.ireturn, 1) := dd_all DX8_faultAt_40_ok 25 rfl
theorem dX8_faultAt_118 : decode cX8_faultAt 118 = .ok (.iconst 3, 1) := dd_all DX8_faultAt_40_ok 26 rfl
theorem dX8_faultAt_119 : decode cX8_faultAt 119 = .ok (.istore_n 2, 1) := dd_all DX8_faultAt_40_ok 27 rfl
theorem dX8_faultAt_120 : decode cX8_faultAt 120 = .ok (.goto 57, 3) := dd_all DX8_faultAt_40_ok 28 rfl
theorem dX8_faultAt_123 : decode cX8_faultAt 123 = .ok (.iload 4, 2) := dd_all DX8_faultAt_40_ok 29 rfl
theorem dX8_faultAt_125 : decode cX8_faultAt 125 = .ok (.bipush 41, 2) := dd_all DX8_faultAt_40_ok 30 rfl
theorem dX8_faultAt_127 : decode cX8_faultAt 127 = .ok (.if_icmp .ne 15, 3) := dd_all DX8_faultAt_40_ok 31 rfl
theorem dX8_faultAt_130 : decode cX8_faultAt 130 = .ok (.iload_n 1, 1) := dd_all DX8_faultAt_40_ok 32 rfl
theorem dX8_faultAt_131 : decode cX8_faultAt 131 = .ok (.ifCond .le 11, 3) := dd_all DX8_faultAt_40_ok 33 rfl
theorem dX8_faultAt_134 : decode cX8_faultAt 134 = .ok (.iinc 1 (-1), 3) := dd_all DX8_faultAt_40_ok 34 rfl
theorem dX8_faultAt_137 : decode cX8_faultAt 137 = .ok (.iconst 1, 1) := dd_all DX8_faultAt_40_ok 35 rfl
theorem dX8_faultAt_138 : decode cX8_faultAt 138 = .ok (.istore_n 2, 1) := dd_all DX8_faultAt_40_ok 36 rfl
theorem dX8_faultAt_139 : decode cX8_faultAt 139 = .ok (.goto 38, 3) := dd_all DX8_faultAt_40_ok 37 rfl
theorem dX8_faultAt_142 : decode cX8_faultAt 142 = .ok (.iload 4, 2) := dd_all DX8_faultAt_40_ok 38 rfl
theorem dX8_faultAt_144 : decode cX8_faultAt 144 = .ok (.bipush 42, 2) := dd_all DX8_faultAt_40_ok 39 rfl
def DX8_faultAt_80 : List (Nat × Instr × Nat) := [(146, .if_icmp .ne 13, 3), (149, .iload_n 2, 1), (150, .iconst 1, 1), (151, .if_icmp .ne 8, 3), (154, .iconst 2, 1), (155, .istore_n 2, 1), (156, .goto 21, 3), (159, .iload 4, 2), (161, .bipush 43, 2), (163, .if_icmp .eq 12, 3), (166, .iload 4, 2), (168, .bipush 94, 2), (170, .if_icmp .eq 5, 3), (173, .iload_n 3, 1), (174, .ireturn, 1), (175, .iconst 0, 1), (176, .istore_n 2, 1), (177, .iinc 3 1, 3), (180, .goto (-174), 3), (183, .aload_n 0, 1), (184, .iconst 3, 1), (185, .putfield 141, 3), (188, .iload_n 2, 1), (189, .ifCond .eq 12, 3), (192, .iload_n 2, 1), (193, .iconst 2, 1), (194, .if_icmp .eq 7, 3), (197, .iload_n 1, 1), (198, .ifCond .le 10, 3), (201, .aload_n 0, 1), (202, .getfield 134, 3), (205, .goto 5, 3), (208, .bipush (-4), 2), (210, .ireturn, 1)]
theorem DX8_faultAt_80_ok : ∀ q ∈ DX8_faultAt_80, decode cX8_faultAt q.1 = .ok (q.2.1, q.2.2) := by decide +kernel
theorem dX8_faultAt_146 : decode cX8_faultAt 146 = .ok (.if_icmp .ne 13, 3) := dd_all DX8_faultAt_80_ok 0 rfl
theorem dX8_faultAt_149 : decode cX8_faultAt 149 = .ok (.iload_n 2, 1) := dd_all DX8_faultAt_80_ok 1 rfl
theorem dX8_faultAt_150 : decode cX8_faultAt 150 = .ok (.iconst 1, 1) := dd_all DX8_faultAt_80_ok 2 rfl
theorem dX8_faultAt_151 : decode cX8_faultAt 151 = .ok (.if_icmp .ne 8, 3) := dd_all DX8_faultAt_80_ok 3 rfl
theorem dX8_faultAt_154 : decode cX8_faultAt 154 = .ok (.iconst 2, 1) := dd_all DX8_faultAt_80_ok 4 rfl
theorem dX8_faultAt_155 : decode cX8_faultAt 155 = .ok (.istore_n 2, 1) := dd_all DX8_faultAt_80_ok 5 rfl
theorem dX8_faultAt_156 : decode cX8_faultAt 156 = .ok (.goto 21, 3) := dd_all DX8_faultAt_80_ok 6 rfl
theorem dX8_faultAt_159 : decode cX8_faultAt 159 = .ok (.iload 4, 2) := dd_all DX8_faultAt_80_ok 7 rfl
theorem dX8_faultAt_161 : decode cX8_faultAt 161 = .ok (.bipush 43, 2) := dd_all DX8_faultAt_80_ok 8 rfl
theorem dX8_faultAt_163 : decode cX8_faultAt 163 = .ok (.if_icmp .eq 12, 3) := dd_all DX8_faultAt_80_ok 9 rfl
theorem dX8_faultAt_166 : decode cX8_faultAt 166 = .ok (.iload 4, 2) := dd_all DX8_faultAt_80_ok 10 rfl
theorem dX8_faultAt_168 : decode cX8_faultAt 168 = .ok (.bipush 94, 2) := dd_all DX8_faultAt_80_ok 11 rfl
theorem dX8_faultAt_170 : decode cX8_faultAt 170 = .ok (.if_icmp .eq 5, 3) := dd_all DX8_faultAt_80_ok 12 rfl
theorem dX8_faultAt_173 : decode cX8_faultAt 173 = .ok (.iload_n 3, 1) := dd_all DX8_faultAt_80_ok 13 rfl
theorem dX8_faultAt_174 : decode cX8_faultAt 174 = .ok (.ireturn, 1) := dd_all DX8_faultAt_80_ok 14 rfl
theorem dX8_faultAt_175 : decode cX8_faultAt 175 = .ok (.iconst 0, 1) := dd_all DX8_faultAt_80_ok 15 rfl
theorem dX8_faultAt_176 : decode cX8_faultAt 176 = .ok (.istore_n 2, 1) := dd_all DX8_faultAt_80_ok 16 rfl
theorem dX8_faultAt_177 : decode cX8_faultAt 177 = .ok (.iinc 3 1, 3) := dd_all DX8_faultAt_80_ok 17 rfl
theorem dX8_faultAt_180 : decode cX8_faultAt 180 = .ok (.goto (-174), 3) := dd_all DX8_faultAt_80_ok 18 rfl
theorem dX8_faultAt_183 : decode cX8_faultAt 183 = .ok (.aload_n 0, 1) := dd_all DX8_faultAt_80_ok 19 rfl
theorem dX8_faultAt_184 : decode cX8_faultAt 184 = .ok (.iconst 3, 1) := dd_all DX8_faultAt_80_ok 20 rfl
theorem dX8_faultAt_185 : decode cX8_faultAt 185 = .ok (.putfield 141, 3) := dd_all DX8_faultAt_80_ok 21 rfl
theorem dX8_faultAt_188 : decode cX8_faultAt 188 = .ok (.iload_n 2, 1) := dd_all DX8_faultAt_80_ok 22 rfl
theorem dX8_faultAt_189 : decode cX8_faultAt 189 = .ok (.ifCond .eq 12, 3) := dd_all DX8_faultAt_80_ok 23 rfl
theorem dX8_faultAt_192 : decode cX8_faultAt 192 = .ok (.iload_n 2, 1) := dd_all DX8_faultAt_80_ok 24 rfl
theorem dX8_faultAt_193 : decode cX8_faultAt 193 = .ok (.iconst 2, 1) := dd_all DX8_faultAt_80_ok 25 rfl
theorem dX8_faultAt_194 : decode cX8_faultAt 194 = .ok (.if_icmp .eq 7, 3) := dd_all DX8_faultAt_80_ok 26 rfl
theorem dX8_faultAt_197 : decode cX8_faultAt 197 = .ok (.iload_n 1, 1) := dd_all DX8_faultAt_80_ok 27 rfl
theorem dX8_faultAt_198 : decode cX8_faultAt 198 = .ok (.ifCond .le 10, 3) := dd_all DX8_faultAt_80_ok 28 rfl
theorem dX8_faultAt_201 : decode cX8_faultAt 201 = .ok (.aload_n 0, 1) := dd_all DX8_faultAt_80_ok 29 rfl
theorem dX8_faultAt_202 : decode cX8_faultAt 202 = .ok (.getfield 134, 3) := dd_all DX8_faultAt_80_ok 30 rfl
theorem dX8_faultAt_205 : decode cX8_faultAt 205 = .ok (.goto 5, 3) := dd_all DX8_faultAt_80_ok 31 rfl
theorem dX8_faultAt_208 : decode cX8_faultAt 208 = .ok (.bipush (-4), 2) := dd_all DX8_faultAt_80_ok 32 rfl
theorem dX8_faultAt_210 : decode cX8_faultAt 210 = .ok (.ireturn, 1) := dd_all DX8_faultAt_80_ok 33 rfl
def DX8_fault_0 : List (Nat × Instr × Nat) := [(0, .iload_n 1, 1), (1, .iconst 0, 1), (2, .iconst 1, 1), (3, .invokestatic 39, 3), (6, .ifCond .ne 5, 3), (9, .iconst (-1), 1), (10, .ireturn, 1), (11, .aload_n 0, 1), (12, .invokevirtual 147, 3), (15, .istore_n 2, 1), (16, .iload_n 2, 1), (17, .bipush (-4), 2), (19, .if_icmp .eq 7, 3), (22, .iload_n 1, 1), (23, .ifCond .ne 7, 3), (26, .iload_n 2, 1), (27, .goto 7, 3), (30, .aload_n 0, 1), (31, .getfield 141, 3), (34, .ireturn, 1)]
theorem DX8_fault_0_ok : ∀ q ∈ DX8_fault_0, decode cX8_fault q.1 = .ok (q.2.1, q.2.2) := by decide +kernel
theorem dX8_fault_0 : decode cX8_fault 0 = .ok (.iload_n 1, 1) := dd_all DX8_fault_0_ok 0 rfl
theorem dX8_fault_1 : decode cX8_fault 1 = .ok (.iconst 0, 1) := dd_all DX8_fault_0_ok 1 rfl
theorem dX8_fault_2 : decode cX8_fault 2 = .ok (.iconst 1, 1) := dd_all DX8_fault_0_ok 2 rfl
theorem dX8_fault_3 : decode cX8_fault 3 = .ok (.invokestatic 39, 3) := dd_all DX8_fault_0_ok 3 rfl
theorem dX8_fault_6 : decode cX8_fault 6 = .ok (.ifCond .ne 5, 3) := dd_all DX8_fault_0_ok 4 rfl
theorem dX8_fault_9 : decode cX8_fault 9 = .ok (.iconst (-1), 1) := dd_all DX8_fault_0_ok 5 rfl
theorem dX8_fault_10 : decode cX8_fault 10 = .ok (.ireturn, 1) := dd_all DX8_fault_0_ok 6 rfl
theorem dX8_fault_11 : decode cX8_fault 11 = .ok (.aload_n 0, 1) := dd_all DX8_fault_0_ok 7 rfl
theorem dX8_fault_12 : decode cX8_fault 12 = .ok (.invokevirtual 147, 3) := dd_all DX8_fault_0_ok 8 rfl
theorem dX8_fault_15 : decode cX8_fault 15 = .ok (.istore_n 2, 1) := dd_all DX8_fault_0_ok 9 rfl
theorem dX8_fault_16 : decode cX8_fault 16 = .ok (.iload_n 2, 1) := dd_all DX8_fault_0_ok 10 rfl
theorem dX8_fault_17 : decode cX8_fault 17 = .ok (.bipush (-4), 2) := dd_all DX8_fault_0_ok 11 rfl
theorem dX8_fault_19 : decode cX8_fault 19 = .ok (.if_icmp .eq 7, 3) := dd_all DX8_fault_0_ok 12 rfl
theorem dX8_fault_22 : decode cX8_fault 22 = .ok (.iload_n 1, 1) := dd_all DX8_fault_0_ok 13 rfl
theorem dX8_fault_23 : decode cX8_fault 23 = .ok (.ifCond .ne 7, 3) := dd_all DX8_fault_0_ok 14 rfl
theorem dX8_fault_26 : decode cX8_fault 26 = .ok (.iload_n 2, 1) := dd_all DX8_fault_0_ok 15 rfl
theorem dX8_fault_27 : decode cX8_fault 27 = .ok (.goto 7, 3) := dd_all DX8_fault_0_ok 16 rfl
theorem dX8_fault_30 : decode cX8_fault 30 = .ok (.aload_n 0, 1) := dd_all DX8_fault_0_ok 17 rfl
theorem dX8_fault_31 : decode cX8_fault 31 = .ok (.getfield 141, 3) := dd_all DX8_fault_0_ok 18 rfl
theorem dX8_fault_34 : decode cX8_fault 34 = .ok (.ireturn, 1) := dd_all DX8_fault_0_ok 19 rfl
def DX8_adopt_0 : List (Nat × Instr × Nat) := [(0, .aload_n 0, 1), (1, .invokevirtual 147, 3), (4, .bipush (-4), 2), (6, .if_icmp .eq 6, 3), (9, .bipush (-2), 2), (11, .ireturn, 1), (12, .aload_n 0, 1), (13, .invokevirtual 61, 3), (16, .iconst 0, 1), (17, .istore_n 1, 1), (18, .aload_n 0, 1), (19, .getfield 7, 3), (22, .bipush 9, 2), (24, .aload_n 0, 1), (25, .getfield 134, 3), (28, .iastore, 1), (29, .iconst 0, 1), (30, .istore_n 2, 1), (31, .iload_n 2, 1), (32, .bipush 60, 2), (34, .if_icmp .ge 64, 3), (37, .aload_n 0, 1), (38, .getfield 7, 3), (41, .bipush 10, 2), (43, .iload_n 2, 1), (44, .iadd, 1), (45, .iload_n 2, 1), (46, .aload_n 0, 1), (47, .getfield 134, 3), (50, .if_icmp .ge 12, 3), (53, .aload_n 0, 1), (54, .getfield 19, 3), (57, .iload_n 2, 1), (58, .iaload, 1), (59, .goto 4, 3), (62, .iconst 0, 1), (63, .iastore, 1), (64, .iload_n 1, 1), (65, .iload_n 2, 1), (66, .aload_n 0, 1)]
theorem DX8_adopt_0_ok : ∀ q ∈ DX8_adopt_0, decode cX8_adopt q.1 = .ok (q.2.1, q.2.2) := by decide +kernel
theorem dX8_adopt_0 : decode cX8_adopt 0 = .ok (.aload_n 0, 1) := dd_all DX8_adopt_0_ok 0 rfl
theorem dX8_adopt_1 : decode cX8_adopt 1 = .ok (.invokevirtual 147, 3) := dd_all DX8_adopt_0_ok 1 rfl
theorem dX8_adopt_4 : decode cX8_adopt 4 = .ok (.bipush (-4), 2) := dd_all DX8_adopt_0_ok 2 rfl
theorem dX8_adopt_6 : decode cX8_adopt 6 = .ok (.if_icmp .eq 6, 3) := dd_all DX8_adopt_0_ok 3 rfl
theorem dX8_adopt_9 : decode cX8_adopt 9 = .ok (.bipush (-2), 2) := dd_all DX8_adopt_0_ok 4 rfl
theorem dX8_adopt_11 : decode cX8_adopt 11 = .ok (.ireturn, 1) := dd_all DX8_adopt_0_ok 5 rfl
theorem dX8_adopt_12 : decode cX8_adopt 12 = .ok (.aload_n 0, 1) := dd_all DX8_adopt_0_ok 6 rfl
theorem dX8_adopt_13 : decode cX8_adopt 13 = .ok (.invokevirtual 61, 3) := dd_all DX8_adopt_0_ok 7 rfl
theorem dX8_adopt_16 : decode cX8_adopt 16 = .ok (.iconst 0, 1) := dd_all DX8_adopt_0_ok 8 rfl
theorem dX8_adopt_17 : decode cX8_adopt 17 = .ok (.istore_n 1, 1) := dd_all DX8_adopt_0_ok 9 rfl
theorem dX8_adopt_18 : decode cX8_adopt 18 = .ok (.aload_n 0, 1) := dd_all DX8_adopt_0_ok 10 rfl
theorem dX8_adopt_19 : decode cX8_adopt 19 = .ok (.getfield 7, 3) := dd_all DX8_adopt_0_ok 11 rfl
theorem dX8_adopt_22 : decode cX8_adopt 22 = .ok (.bipush 9, 2) := dd_all DX8_adopt_0_ok 12 rfl
theorem dX8_adopt_24 : decode cX8_adopt 24 = .ok (.aload_n 0, 1) := dd_all DX8_adopt_0_ok 13 rfl
theorem dX8_adopt_25 : decode cX8_adopt 25 = .ok (.getfield 134, 3) := dd_all DX8_adopt_0_ok 14 rfl
theorem dX8_adopt_28 : decode cX8_adopt 28 = .ok (.iastore, 1) := dd_all DX8_adopt_0_ok 15 rfl
theorem dX8_adopt_29 : decode cX8_adopt 29 = .ok (.iconst 0, 1) := dd_all DX8_adopt_0_ok 16 rfl
theorem dX8_adopt_30 : decode cX8_adopt 30 = .ok (.istore_n 2, 1) := dd_all DX8_adopt_0_ok 17 rfl
theorem dX8_adopt_31 : decode cX8_adopt 31 = .ok (.iload_n 2, 1) := dd_all DX8_adopt_0_ok 18 rfl
theorem dX8_adopt_32 : decode cX8_adopt 32 = .ok (.bipush 60, 2) := dd_all DX8_adopt_0_ok 19 rfl
theorem dX8_adopt_34 : decode cX8_adopt 34 = .ok (.if_icmp .ge 64, 3) := dd_all DX8_adopt_0_ok 20 rfl
theorem dX8_adopt_37 : decode cX8_adopt 37 = .ok (.aload_n 0, 1) := dd_all DX8_adopt_0_ok 21 rfl
theorem dX8_adopt_38 : decode cX8_adopt 38 = .ok (.getfield 7, 3) := dd_all DX8_adopt_0_ok 22 rfl
theorem dX8_adopt_41 : decode cX8_adopt 41 = .ok (.bipush 10, 2) := dd_all DX8_adopt_0_ok 23 rfl
theorem dX8_adopt_43 : decode cX8_adopt 43 = .ok (.iload_n 2, 1) := dd_all DX8_adopt_0_ok 24 rfl
theorem dX8_adopt_44 : decode cX8_adopt 44 = .ok (.iadd, 1) := dd_all DX8_adopt_0_ok 25 rfl
theorem dX8_adopt_45 : decode cX8_adopt 45 = .ok (.iload_n 2, 1) := dd_all DX8_adopt_0_ok 26 rfl
theorem dX8_adopt_46 : decode cX8_adopt 46 = .ok (.aload_n 0, 1) := dd_all DX8_adopt_0_ok 27 rfl
theorem dX8_adopt_47 : decode cX8_adopt 47 = .ok (.getfield 134, 3) := dd_all DX8_adopt_0_ok 28 rfl
theorem dX8_adopt_50 : decode cX8_adopt 50 = .ok (.if_icmp .ge 12, 3) := dd_all DX8_adopt_0_ok 29 rfl
theorem dX8_adopt_53 : decode cX8_adopt 53 = .ok (.aload_n 0, 1) := dd_all DX8_adopt_0_ok 30 rfl
theorem dX8_adopt_54 : decode cX8_adopt 54 = .ok (.getfield 19, 3) := dd_all DX8_adopt_0_ok 31 rfl
theorem dX8_adopt_57 : decode cX8_adopt 57 = .ok (.iload_n 2, 1) := dd_all DX8_adopt_0_ok 32 rfl
theorem dX8_adopt_58 : decode cX8_adopt 58 = .ok (.iaload, 1) := dd_all DX8_adopt_0_ok 33 rfl
theorem dX8_adopt_59 : decode cX8_adopt 59 = .ok (.goto 4, 3) := dd_all DX8_adopt_0_ok 34 rfl
theorem dX8_adopt_62 : decode cX8_adopt 62 = .ok (.iconst 0, 1) := dd_all DX8_adopt_0_ok 35 rfl
theorem dX8_adopt_63 : decode cX8_adopt 63 = .ok (.iastore, 1) := dd_all DX8_adopt_0_ok 36 rfl
theorem dX8_adopt_64 : decode cX8_adopt 64 = .ok (.iload_n 1, 1) := dd_all DX8_adopt_0_ok 37 rfl
theorem dX8_adopt_65 : decode cX8_adopt 65 = .ok (.iload_n 2, 1) := dd_all DX8_adopt_0_ok 38 rfl
theorem dX8_adopt_66 : decode cX8_adopt 66 = .ok (.aload_n 0, 1) := dd_all DX8_adopt_0_ok 39 rfl
def DX8_adopt_40 : List (Nat × Instr × Nat) := [(67, .getfield 134, 3), (70, .if_icmp .ge 19, 3), (73, .aload_n 0, 1), (74, .getfield 19, 3), (77, .iload_n 2, 1), (78, .iaload, 1), (79, .invokestatic 144, 3), (82, .ifCond .lt 7, 3), (85, .iconst 1, 1), (86, .goto 4, 3), (89, .iconst 0, 1), (90, .iadd, 1), (91, .istore_n 1, 1), (92, .iinc 2 1, 3), (95, .goto (-64), 3), (98, .iload_n 1, 1), (99, .ireturn, 1)]
theorem DX8_adopt_40_ok : ∀ q ∈ DX8_adopt_40, decode cX8_adopt q.1 = .ok (q.2.1, q.2.2) := by decide +kernel
theorem dX8_adopt_67 : decode cX8_adopt 67 = .ok (.getfield 134, 3) := dd_all DX8_adopt_40_ok 0 rfl
theorem dX8_adopt_70 : decode cX8_adopt 70 = .ok (.if_icmp .ge 19, 3) := dd_all DX8_adopt_40_ok 1 rfl
theorem dX8_adopt_73 : decode cX8_adopt 73 = .ok (.aload_n 0, 1) := dd_all DX8_adopt_40_ok 2 rfl
theorem dX8_adopt_74 : decode cX8_adopt 74 = .ok (.getfield 19, 3) := dd_all DX8_adopt_40_ok 3 rfl
theorem dX8_adopt_77 : decode cX8_adopt 77 = .ok (.iload_n 2, 1) := dd_all DX8_adopt_40_ok 4 rfl
theorem dX8_adopt_78 : decode cX8_adopt 78 = .ok (.iaload, 1) := dd_all DX8_adopt_40_ok 5 rfl
theorem dX8_adopt_79 : decode cX8_adopt 79 = .ok (.invokestatic 144, 3) := dd_all DX8_adopt_40_ok 6 rfl
theorem dX8_adopt_82 : decode cX8_adopt 82 = .ok (.ifCond .lt 7, 3) := dd_all DX8_adopt_40_ok 7 rfl
theorem dX8_adopt_85 : decode cX8_adopt 85 = .ok (.iconst 1, 1) := dd_all DX8_adopt_40_ok 8 rfl
theorem dX8_adopt_86 : decode cX8_adopt 86 = .ok (.goto 4, 3) := dd_all DX8_adopt_40_ok 9 rfl
theorem dX8_adopt_89 : decode cX8_adopt 89 = .ok (.iconst 0, 1) := dd_all DX8_adopt_40_ok 10 rfl
theorem dX8_adopt_90 : decode cX8_adopt 90 = .ok (.iadd, 1) := dd_all DX8_adopt_40_ok 11 rfl
theorem dX8_adopt_91 : decode cX8_adopt 91 = .ok (.istore_n 1, 1) := dd_all DX8_adopt_40_ok 12 rfl
theorem dX8_adopt_92 : decode cX8_adopt 92 = .ok (.iinc 2 1, 3) := dd_all DX8_adopt_40_ok 13 rfl
theorem dX8_adopt_95 : decode cX8_adopt 95 = .ok (.goto (-64), 3) := dd_all DX8_adopt_40_ok 14 rfl
theorem dX8_adopt_98 : decode cX8_adopt 98 = .ok (.iload_n 1, 1) := dd_all DX8_adopt_40_ok 15 rfl
theorem dX8_adopt_99 : decode cX8_adopt 99 = .ok (.ireturn, 1) := dd_all DX8_adopt_40_ok 16 rfl
def DX8_cut_0 : List (Nat × Instr × Nat) := [(0, .iload_n 0, 1), (1, .ldc 150, 2), (3, .if_icmp .le 8, 3), (6, .ldc 150, 2), (8, .goto 4, 3), (11, .iload_n 0, 1), (12, .ireturn, 1)]
theorem DX8_cut_0_ok : ∀ q ∈ DX8_cut_0, decode cX8_cut q.1 = .ok (q.2.1, q.2.2) := by decide +kernel
theorem dX8_cut_0 : decode cX8_cut 0 = .ok (.iload_n 0, 1) := dd_all DX8_cut_0_ok 0 rfl
theorem dX8_cut_1 : decode cX8_cut 1 = .ok (.ldc 150, 2) := dd_all DX8_cut_0_ok 1 rfl
theorem dX8_cut_3 : decode cX8_cut 3 = .ok (.if_icmp .le 8, 3) := dd_all DX8_cut_0_ok 2 rfl
theorem dX8_cut_6 : decode cX8_cut 6 = .ok (.ldc 150, 2) := dd_all DX8_cut_0_ok 3 rfl
theorem dX8_cut_8 : decode cX8_cut 8 = .ok (.goto 4, 3) := dd_all DX8_cut_0_ok 4 rfl
theorem dX8_cut_11 : decode cX8_cut 11 = .ok (.iload_n 0, 1) := dd_all DX8_cut_0_ok 5 rfl
theorem dX8_cut_12 : decode cX8_cut 12 = .ok (.ireturn, 1) := dd_all DX8_cut_0_ok 6 rfl
def DX8_joins_0 : List (Nat × Instr × Nat) := [(0, .iload_n 1, 1), (1, .bipush 43, 2), (3, .if_icmp .ne 12, 3), (6, .iload_n 0, 1), (7, .iload_n 2, 1), (8, .iadd, 1), (9, .invokestatic 151, 3), (12, .goto 23, 3), (15, .iload_n 1, 1), (16, .bipush 94, 2), (18, .if_icmp .ne 16, 3), (21, .iload_n 0, 1), (22, .iload_n 2, 1), (23, .if_icmp .le 7, 3), (26, .iload_n 0, 1), (27, .goto 8, 3), (30, .iload_n 2, 1), (31, .goto 4, 3), (34, .iload_n 2, 1), (35, .ireturn, 1)]
theorem DX8_joins_0_ok : ∀ q ∈ DX8_joins_0, decode cX8_joins q.1 = .ok (q.2.1, q.2.2) := by decide +kernel
theorem dX8_joins_0 : decode cX8_joins 0 = .ok (.iload_n 1, 1) := dd_all DX8_joins_0_ok 0 rfl
theorem dX8_joins_1 : decode cX8_joins 1 = .ok (.bipush 43, 2) := dd_all DX8_joins_0_ok 1 rfl
theorem dX8_joins_3 : decode cX8_joins 3 = .ok (.if_icmp .ne 12, 3) := dd_all DX8_joins_0_ok 2 rfl
theorem dX8_joins_6 : decode cX8_joins 6 = .ok (.iload_n 0, 1) := dd_all DX8_joins_0_ok 3 rfl
theorem dX8_joins_7 : decode cX8_joins 7 = .ok (.iload_n 2, 1) := dd_all DX8_joins_0_ok 4 rfl
theorem dX8_joins_8 : decode cX8_joins 8 = .ok (.iadd, 1) := dd_all DX8_joins_0_ok 5 rfl
theorem dX8_joins_9 : decode cX8_joins 9 = .ok (.invokestatic 151, 3) := dd_all DX8_joins_0_ok 6 rfl
theorem dX8_joins_12 : decode cX8_joins 12 = .ok (.goto 23, 3) := dd_all DX8_joins_0_ok 7 rfl
theorem dX8_joins_15 : decode cX8_joins 15 = .ok (.iload_n 1, 1) := dd_all DX8_joins_0_ok 8 rfl
theorem dX8_joins_16 : decode cX8_joins 16 = .ok (.bipush 94, 2) := dd_all DX8_joins_0_ok 9 rfl
theorem dX8_joins_18 : decode cX8_joins 18 = .ok (.if_icmp .ne 16, 3) := dd_all DX8_joins_0_ok 10 rfl
theorem dX8_joins_21 : decode cX8_joins 21 = .ok (.iload_n 0, 1) := dd_all DX8_joins_0_ok 11 rfl
theorem dX8_joins_22 : decode cX8_joins 22 = .ok (.iload_n 2, 1) := dd_all DX8_joins_0_ok 12 rfl
theorem dX8_joins_23 : decode cX8_joins 23 = .ok (.if_icmp .le 7, 3) := dd_all DX8_joins_0_ok 13 rfl
theorem dX8_joins_26 : decode cX8_joins 26 = .ok (.iload_n 0, 1) := dd_all DX8_joins_0_ok 14 rfl
theorem dX8_joins_27 : decode cX8_joins 27 = .ok (.goto 8, 3) := dd_all DX8_joins_0_ok 15 rfl
theorem dX8_joins_30 : decode cX8_joins 30 = .ok (.iload_n 2, 1) := dd_all DX8_joins_0_ok 16 rfl
theorem dX8_joins_31 : decode cX8_joins 31 = .ok (.goto 4, 3) := dd_all DX8_joins_0_ok 17 rfl
theorem dX8_joins_34 : decode cX8_joins 34 = .ok (.iload_n 2, 1) := dd_all DX8_joins_0_ok 18 rfl
theorem dX8_joins_35 : decode cX8_joins 35 = .ok (.ireturn, 1) := dd_all DX8_joins_0_ok 19 rfl
def DX8_makes_0 : List (Nat × Instr × Nat) := [(0, .iconst 0, 1), (1, .istore_n 1, 1), (2, .iconst 0, 1), (3, .istore_n 2, 1), (4, .aload_n 0, 1), (5, .getfield 25, 3), (8, .iconst 0, 1), (9, .iconst 0, 1), (10, .iastore, 1), (11, .aload_n 0, 1), (12, .getfield 28, 3), (15, .iconst 0, 1), (16, .iconst 0, 1), (17, .iastore, 1), (18, .iconst 0, 1), (19, .istore_n 3, 1), (20, .iload_n 3, 1), (21, .aload_n 0, 1), (22, .getfield 7, 3), (25, .bipush 9, 2), (27, .iaload, 1), (28, .if_icmp .ge 167, 3), (31, .aload_n 0, 1), (32, .getfield 7, 3), (35, .bipush 10, 2), (37, .iload_n 3, 1), (38, .iadd, 1), (39, .iaload, 1), (40, .istore 4, 2), (42, .iload 4, 2), (44, .bipush 40, 2), (46, .if_icmp .ne 23, 3), (49, .iinc 1 1, 3), (52, .aload_n 0, 1), (53, .getfield 25, 3), (56, .iload_n 1, 1), (57, .iconst 0, 1), (58, .iastore, 1), (59, .aload_n 0, 1), (60, .getfield 28, 3)]
theorem DX8_makes_0_ok : ∀ q ∈ DX8_makes_0, decode cX8_makes q.1 = .ok (q.2.1, q.2.2) := by decide +kernel
theorem dX8_makes_0 : decode cX8_makes 0 = .ok (.iconst 0, 1) := dd_all DX8_makes_0_ok 0 rfl
theorem dX8_makes_1 : decode cX8_makes 1 = .ok (.istore_n 1, 1) := dd_all DX8_makes_0_ok 1 rfl
theorem dX8_makes_2 : decode cX8_makes 2 = .ok (.iconst 0, 1) := dd_all DX8_makes_0_ok 2 rfl
theorem dX8_makes_3 : decode cX8_makes 3 = .ok (.istore_n 2, 1) := dd_all DX8_makes_0_ok 3 rfl
theorem dX8_makes_4 : decode cX8_makes 4 = .ok (.aload_n 0, 1) := dd_all DX8_makes_0_ok 4 rfl
theorem dX8_makes_5 : decode cX8_makes 5 = .ok (.getfield 25, 3) := dd_all DX8_makes_0_ok 5 rfl
theorem dX8_makes_8 : decode cX8_makes 8 = .ok (.iconst 0, 1) := dd_all DX8_makes_0_ok 6 rfl
theorem dX8_makes_9 : decode cX8_makes 9 = .ok (.iconst 0, 1) := dd_all DX8_makes_0_ok 7 rfl
theorem dX8_makes_10 : decode cX8_makes 10 = .ok (.iastore, 1) := dd_all DX8_makes_0_ok 8 rfl
theorem dX8_makes_11 : decode cX8_makes 11 = .ok (.aload_n 0, 1) := dd_all DX8_makes_0_ok 9 rfl
theorem dX8_makes_12 : decode cX8_makes 12 = .ok (.getfield 28, 3) := dd_all DX8_makes_0_ok 10 rfl
theorem dX8_makes_15 : decode cX8_makes 15 = .ok (.iconst 0, 1) := dd_all DX8_makes_0_ok 11 rfl
theorem dX8_makes_16 : decode cX8_makes 16 = .ok (.iconst 0, 1) := dd_all DX8_makes_0_ok 12 rfl
theorem dX8_makes_17 : decode cX8_makes 17 = .ok (.iastore, 1) := dd_all DX8_makes_0_ok 13 rfl
theorem dX8_makes_18 : decode cX8_makes 18 = .ok (.iconst 0, 1) := dd_all DX8_makes_0_ok 14 rfl
theorem dX8_makes_19 : decode cX8_makes 19 = .ok (.istore_n 3, 1) := dd_all DX8_makes_0_ok 15 rfl
theorem dX8_makes_20 : decode cX8_makes 20 = .ok (.iload_n 3, 1) := dd_all DX8_makes_0_ok 16 rfl
theorem dX8_makes_21 : decode cX8_makes 21 = .ok (.aload_n 0, 1) := dd_all DX8_makes_0_ok 17 rfl
theorem dX8_makes_22 : decode cX8_makes 22 = .ok (.getfield 7, 3) := dd_all DX8_makes_0_ok 18 rfl
theorem dX8_makes_25 : decode cX8_makes 25 = .ok (.bipush 9, 2) := dd_all DX8_makes_0_ok 19 rfl
theorem dX8_makes_27 : decode cX8_makes 27 = .ok (.iaload, 1) := dd_all DX8_makes_0_ok 20 rfl
theorem dX8_makes_28 : decode cX8_makes 28 = .ok (.if_icmp .ge 167, 3) := dd_all DX8_makes_0_ok 21 rfl
theorem dX8_makes_31 : decode cX8_makes 31 = .ok (.aload_n 0, 1) := dd_all DX8_makes_0_ok 22 rfl
theorem dX8_makes_32 : decode cX8_makes 32 = .ok (.getfield 7, 3) := dd_all DX8_makes_0_ok 23 rfl
theorem dX8_makes_35 : decode cX8_makes 35 = .ok (.bipush 10, 2) := dd_all DX8_makes_0_ok 24 rfl
theorem dX8_makes_37 : decode cX8_makes 37 = .ok (.iload_n 3, 1) := dd_all DX8_makes_0_ok 25 rfl
theorem dX8_makes_38 : decode cX8_makes 38 = .ok (.iadd, 1) := dd_all DX8_makes_0_ok 26 rfl
theorem dX8_makes_39 : decode cX8_makes 39 = .ok (.iaload, 1) := dd_all DX8_makes_0_ok 27 rfl
theorem dX8_makes_40 : decode cX8_makes 40 = .ok (.istore 4, 2) := dd_all DX8_makes_0_ok 28 rfl
theorem dX8_makes_42 : decode cX8_makes 42 = .ok (.iload 4, 2) := dd_all DX8_makes_0_ok 29 rfl
theorem dX8_makes_44 : decode cX8_makes 44 = .ok (.bipush 40, 2) := dd_all DX8_makes_0_ok 30 rfl
theorem dX8_makes_46 : decode cX8_makes 46 = .ok (.if_icmp .ne 23, 3) := dd_all DX8_makes_0_ok 31 rfl
theorem dX8_makes_49 : decode cX8_makes 49 = .ok (.iinc 1 1, 3) := dd_all DX8_makes_0_ok 32 rfl
theorem dX8_makes_52 : decode cX8_makes 52 = .ok (.aload_n 0, 1) := dd_all DX8_makes_0_ok 33 rfl
theorem dX8_makes_53 : decode cX8_makes 53 = .ok (.getfield 25, 3) := dd_all DX8_makes_0_ok 34 rfl
theorem dX8_makes_56 : decode cX8_makes 56 = .ok (.iload_n 1, 1) := dd_all DX8_makes_0_ok 35 rfl
theorem dX8_makes_57 : decode cX8_makes 57 = .ok (.iconst 0, 1) := dd_all DX8_makes_0_ok 36 rfl
theorem dX8_makes_58 : decode cX8_makes 58 = .ok (.iastore, 1) := dd_all DX8_makes_0_ok 37 rfl
theorem dX8_makes_59 : decode cX8_makes 59 = .ok (.aload_n 0, 1) := dd_all DX8_makes_0_ok 38 rfl
theorem dX8_makes_60 : decode cX8_makes 60 = .ok (.getfield 28, 3) := dd_all DX8_makes_0_ok 39 rfl
def DX8_makes_40 : List (Nat × Instr × Nat) := [(63, .iload_n 1, 1), (64, .iconst 0, 1), (65, .iastore, 1), (66, .goto 123, 3), (69, .iload 4, 2), (71, .bipush 43, 2), (73, .if_icmp .eq 10, 3), (76, .iload 4, 2), (78, .bipush 94, 2), (80, .if_icmp .ne 36, 3), (83, .aload_n 0, 1), (84, .getfield 25, 3), (87, .iload_n 1, 1), (88, .aload_n 0, 1), (89, .getfield 25, 3), (92, .iload_n 1, 1), (93, .iaload, 1), (94, .aload_n 0, 1), (95, .getfield 28, 3), (98, .iload_n 1, 1), (99, .iaload, 1), (100, .iload_n 2, 1), (101, .invokestatic 154, 3), (104, .iastore, 1), (105, .aload_n 0, 1), (106, .getfield 28, 3), (109, .iload_n 1, 1), (110, .iload 4, 2), (112, .iastore, 1), (113, .goto 76, 3), (116, .iload 4, 2), (118, .bipush 41, 2), (120, .if_icmp .ne 26, 3), (123, .aload_n 0, 1), (124, .getfield 25, 3), (127, .iload_n 1, 1), (128, .iaload, 1), (129, .aload_n 0, 1), (130, .getfield 28, 3), (133, .iload_n 1, 1)]
theorem DX8_makes_40_ok : ∀ q ∈ DX8_makes_40, decode cX8_makes q.1 = .ok (q.2.1, q.2.2) := by decide +kernel
theorem dX8_makes_63 : decode cX8_makes 63 = .ok (.iload_n 1, 1) := dd_all DX8_makes_40_ok 0 rfl
theorem dX8_makes_64 : decode cX8_makes 64 = .ok (.iconst 0, 1) := dd_all DX8_makes_40_ok 1 rfl
theorem dX8_makes_65 : decode cX8_makes 65 = .ok (.iastore, 1) := dd_all DX8_makes_40_ok 2 rfl
theorem dX8_makes_66 : decode cX8_makes 66 = .ok (.goto 123, 3) := dd_all DX8_makes_40_ok 3 rfl
theorem dX8_makes_69 : decode cX8_makes 69 = .ok (.iload 4, 2) := dd_all DX8_makes_40_ok 4 rfl
theorem dX8_makes_71 : decode cX8_makes 71 = .ok (.bipush 43, 2) := dd_all DX8_makes_40_ok 5 rfl
theorem dX8_makes_73 : decode cX8_makes 73 = .ok (.if_icmp .eq 10, 3) := dd_all DX8_makes_40_ok 6 rfl
theorem dX8_makes_76 : decode cX8_makes 76 = .ok (.iload 4, 2) := dd_all DX8_makes_40_ok 7 rfl
theorem dX8_makes_78 : decode cX8_makes 78 = .ok (.bipush 94, 2) := dd_all DX8_makes_40_ok 8 rfl
theorem dX8_makes_80 : decode cX8_makes 80 = .ok (.if_icmp .ne 36, 3) := dd_all DX8_makes_40_ok 9 rfl
theorem dX8_makes_83 : decode cX8_makes 83 = .ok (.aload_n 0, 1) := dd_all DX8_makes_40_ok 10 rfl
theorem dX8_makes_84 : decode cX8_makes 84 = .ok (.getfield 25, 3) := dd_all DX8_makes_40_ok 11 rfl
theorem dX8_makes_87 : decode cX8_makes 87 = .ok (.iload_n 1, 1) := dd_all DX8_makes_40_ok 12 rfl
theorem dX8_makes_88 : decode cX8_makes 88 = .ok (.aload_n 0, 1) := dd_all DX8_makes_40_ok 13 rfl
theorem dX8_makes_89 : decode cX8_makes 89 = .ok (.getfield 25, 3) := dd_all DX8_makes_40_ok 14 rfl
theorem dX8_makes_92 : decode cX8_makes 92 = .ok (.iload_n 1, 1) := dd_all DX8_makes_40_ok 15 rfl
theorem dX8_makes_93 : decode cX8_makes 93 = .ok (.iaload, 1) := dd_all DX8_makes_40_ok 16 rfl
theorem dX8_makes_94 : decode cX8_makes 94 = .ok (.aload_n 0, 1) := dd_all DX8_makes_40_ok 17 rfl
theorem dX8_makes_95 : decode cX8_makes 95 = .ok (.getfield 28, 3) := dd_all DX8_makes_40_ok 18 rfl
theorem dX8_makes_98 : decode cX8_makes 98 = .ok (.iload_n 1, 1) := dd_all DX8_makes_40_ok 19 rfl
theorem dX8_makes_99 : decode cX8_makes 99 = .ok (.iaload, 1) := dd_all DX8_makes_40_ok 20 rfl
theorem dX8_makes_100 : decode cX8_makes 100 = .ok (.iload_n 2, 1) := dd_all DX8_makes_40_ok 21 rfl
theorem dX8_makes_101 : decode cX8_makes 101 = .ok (.invokestatic 154, 3) := dd_all DX8_makes_40_ok 22 rfl
theorem dX8_makes_104 : decode cX8_makes 104 = .ok (.iastore, 1) := dd_all DX8_makes_40_ok 23 rfl
theorem dX8_makes_105 : decode cX8_makes 105 = .ok (.aload_n 0, 1) := dd_all DX8_makes_40_ok 24 rfl
theorem dX8_makes_106 : decode cX8_makes 106 = .ok (.getfield 28, 3) := dd_all DX8_makes_40_ok 25 rfl
theorem dX8_makes_109 : decode cX8_makes 109 = .ok (.iload_n 1, 1) := dd_all DX8_makes_40_ok 26 rfl
theorem dX8_makes_110 : decode cX8_makes 110 = .ok (.iload 4, 2) := dd_all DX8_makes_40_ok 27 rfl
theorem dX8_makes_112 : decode cX8_makes 112 = .ok (.iastore, 1) := dd_all DX8_makes_40_ok 28 rfl
theorem dX8_makes_113 : decode cX8_makes 113 = .ok (.goto 76, 3) := dd_all DX8_makes_40_ok 29 rfl
theorem dX8_makes_116 : decode cX8_makes 116 = .ok (.iload 4, 2) := dd_all DX8_makes_40_ok 30 rfl
theorem dX8_makes_118 : decode cX8_makes 118 = .ok (.bipush 41, 2) := dd_all DX8_makes_40_ok 31 rfl
theorem dX8_makes_120 : decode cX8_makes 120 = .ok (.if_icmp .ne 26, 3) := dd_all DX8_makes_40_ok 32 rfl
theorem dX8_makes_123 : decode cX8_makes 123 = .ok (.aload_n 0, 1) := dd_all DX8_makes_40_ok 33 rfl
theorem dX8_makes_124 : decode cX8_makes 124 = .ok (.getfield 25, 3) := dd_all DX8_makes_40_ok 34 rfl
theorem dX8_makes_127 : decode cX8_makes 127 = .ok (.iload_n 1, 1) := dd_all DX8_makes_40_ok 35 rfl
theorem dX8_makes_128 : decode cX8_makes 128 = .ok (.iaload, 1) := dd_all DX8_makes_40_ok 36 rfl
theorem dX8_makes_129 : decode cX8_makes 129 = .ok (.aload_n 0, 1) := dd_all DX8_makes_40_ok 37 rfl
theorem dX8_makes_130 : decode cX8_makes 130 = .ok (.getfield 28, 3) := dd_all DX8_makes_40_ok 38 rfl
theorem dX8_makes_133 : decode cX8_makes 133 = .ok (.iload_n 1, 1) := dd_all DX8_makes_40_ok 39 rfl
def DX8_makes_80 : List (Nat × Instr × Nat) := [(134, .iaload, 1), (135, .iload_n 2, 1), (136, .invokestatic 154, 3), (139, .istore_n 2, 1), (140, .iinc 1 (-1), 3), (143, .goto 46, 3), (146, .iload 4, 2), (148, .bipush 42, 2), (150, .if_icmp .eq 39, 3), (153, .iload 4, 2), (155, .bipush 48, 2), (157, .bipush 57, 2), (159, .invokestatic 39, 3), (162, .ifCond .eq 16, 3), (165, .iload_n 2, 1), (166, .iload 4, 2), (168, .bipush 48, 2), (170, .isub, 1), (171, .imul, 1), (172, .invokestatic 151, 3), (175, .goto 13, 3), (178, .aload_n 0, 1), (179, .getfield 22, 3), (182, .iload 4, 2), (184, .invokestatic 144, 3), (187, .iaload, 1), (188, .istore_n 2, 1), (189, .iinc 3 1, 3), (192, .goto (-172), 3), (195, .aload_n 0, 1), (196, .getfield 25, 3), (199, .iconst 0, 1), (200, .iaload, 1), (201, .aload_n 0, 1), (202, .getfield 28, 3), (205, .iconst 0, 1), (206, .iaload, 1), (207, .iload_n 2, 1), (208, .invokestatic 154, 3), (211, .ireturn, 1)]
theorem DX8_makes_80_ok : ∀ q ∈ DX8_makes_80, decode cX8_makes q.1 = .ok (q.2.1, q.2.2) := by decide +kernel
theorem dX8_makes_134 : decode cX8_makes 134 = .ok (.iaload, 1) := dd_all DX8_makes_80_ok 0 rfl
theorem dX8_makes_135 : decode cX8_makes 135 = .ok (.iload_n 2, 1) := dd_all DX8_makes_80_ok 1 rfl
theorem dX8_makes_136 : decode cX8_makes 136 = .ok (.invokestatic 154, 3) := dd_all DX8_makes_80_ok 2 rfl
theorem dX8_makes_139 : decode cX8_makes 139 = .ok (.istore_n 2, 1) := dd_all DX8_makes_80_ok 3 rfl
theorem dX8_makes_140 : decode cX8_makes 140 = .ok (.iinc 1 (-1), 3) := dd_all DX8_makes_80_ok 4 rfl
theorem dX8_makes_143 : decode cX8_makes 143 = .ok (.goto 46, 3) := dd_all DX8_makes_80_ok 5 rfl
theorem dX8_makes_146 : decode cX8_makes 146 = .ok (.iload 4, 2) := dd_all DX8_makes_80_ok 6 rfl
theorem dX8_makes_148 : decode cX8_makes 148 = .ok (.bipush 42, 2) := dd_all DX8_makes_80_ok 7 rfl
theorem dX8_makes_150 : decode cX8_makes 150 = .ok (.if_icmp .eq 39, 3) := dd_all DX8_makes_80_ok 8 rfl
theorem dX8_makes_153 : decode cX8_makes 153 = .ok (.iload 4, 2) := dd_all DX8_makes_80_ok 9 rfl
theorem dX8_makes_155 : decode cX8_makes 155 = .ok (.bipush 48, 2) := dd_all DX8_makes_80_ok 10 rfl
theorem dX8_makes_157 : decode cX8_makes 157 = .ok (.bipush 57, 2) := dd_all DX8_makes_80_ok 11 rfl
theorem dX8_makes_159 : decode cX8_makes 159 = .ok (.invokestatic 39, 3) := dd_all DX8_makes_80_ok 12 rfl
theorem dX8_makes_162 : decode cX8_makes 162 = .ok (.ifCond .eq 16, 3) := dd_all DX8_makes_80_ok 13 rfl
theorem dX8_makes_165 : decode cX8_makes 165 = .ok (.iload_n 2, 1) := dd_all DX8_makes_80_ok 14 rfl
theorem dX8_makes_166 : decode cX8_makes 166 = .ok (.iload 4, 2) := dd_all DX8_makes_80_ok 15 rfl
theorem dX8_makes_168 : decode cX8_makes 168 = .ok (.bipush 48, 2) := dd_all DX8_makes_80_ok 16 rfl
theorem dX8_makes_170 : decode cX8_makes 170 = .ok (.isub, 1) := dd_all DX8_makes_80_ok 17 rfl
theorem dX8_makes_171 : decode cX8_makes 171 = .ok (.imul, 1) := dd_all DX8_makes_80_ok 18 rfl
theorem dX8_makes_172 : decode cX8_makes 172 = .ok (.invokestatic 151, 3) := dd_all DX8_makes_80_ok 19 rfl
theorem dX8_makes_175 : decode cX8_makes 175 = .ok (.goto 13, 3) := dd_all DX8_makes_80_ok 20 rfl
theorem dX8_makes_178 : decode cX8_makes 178 = .ok (.aload_n 0, 1) := dd_all DX8_makes_80_ok 21 rfl
theorem dX8_makes_179 : decode cX8_makes 179 = .ok (.getfield 22, 3) := dd_all DX8_makes_80_ok 22 rfl
theorem dX8_makes_182 : decode cX8_makes 182 = .ok (.iload 4, 2) := dd_all DX8_makes_80_ok 23 rfl
theorem dX8_makes_184 : decode cX8_makes 184 = .ok (.invokestatic 144, 3) := dd_all DX8_makes_80_ok 24 rfl
theorem dX8_makes_187 : decode cX8_makes 187 = .ok (.iaload, 1) := dd_all DX8_makes_80_ok 25 rfl
theorem dX8_makes_188 : decode cX8_makes 188 = .ok (.istore_n 2, 1) := dd_all DX8_makes_80_ok 26 rfl
theorem dX8_makes_189 : decode cX8_makes 189 = .ok (.iinc 3 1, 3) := dd_all DX8_makes_80_ok 27 rfl
theorem dX8_makes_192 : decode cX8_makes 192 = .ok (.goto (-172), 3) := dd_all DX8_makes_80_ok 28 rfl
theorem dX8_makes_195 : decode cX8_makes 195 = .ok (.aload_n 0, 1) := dd_all DX8_makes_80_ok 29 rfl
theorem dX8_makes_196 : decode cX8_makes 196 = .ok (.getfield 25, 3) := dd_all DX8_makes_80_ok 30 rfl
theorem dX8_makes_199 : decode cX8_makes 199 = .ok (.iconst 0, 1) := dd_all DX8_makes_80_ok 31 rfl
theorem dX8_makes_200 : decode cX8_makes 200 = .ok (.iaload, 1) := dd_all DX8_makes_80_ok 32 rfl
theorem dX8_makes_201 : decode cX8_makes 201 = .ok (.aload_n 0, 1) := dd_all DX8_makes_80_ok 33 rfl
theorem dX8_makes_202 : decode cX8_makes 202 = .ok (.getfield 28, 3) := dd_all DX8_makes_80_ok 34 rfl
theorem dX8_makes_205 : decode cX8_makes 205 = .ok (.iconst 0, 1) := dd_all DX8_makes_80_ok 35 rfl
theorem dX8_makes_206 : decode cX8_makes 206 = .ok (.iaload, 1) := dd_all DX8_makes_80_ok 36 rfl
theorem dX8_makes_207 : decode cX8_makes 207 = .ok (.iload_n 2, 1) := dd_all DX8_makes_80_ok 37 rfl
theorem dX8_makes_208 : decode cX8_makes 208 = .ok (.invokestatic 154, 3) := dd_all DX8_makes_80_ok 38 rfl
theorem dX8_makes_211 : decode cX8_makes 211 = .ok (.ireturn, 1) := dd_all DX8_makes_80_ok 39 rfl
def DX8_mix_0 : List (Nat × Instr × Nat) := [(0, .iconst 0, 1), (1, .istore_n 1, 1), (2, .iload_n 1, 1), (3, .iconst 4, 1), (4, .if_icmp .ge 20, 3), (7, .aload_n 0, 1), (8, .getfield 22, 3), (11, .iload_n 1, 1), (12, .aload_n 0, 1), (13, .iload_n 1, 1), (14, .invokevirtual 125, 3), (17, .iastore, 1), (18, .iinc 1 1, 3), (21, .goto (-19), 3), (24, .aload_n 0, 1), (25, .invokevirtual 158, 3), (28, .ireturn, 1)]
theorem DX8_mix_0_ok : ∀ q ∈ DX8_mix_0, decode cX8_mix q.1 = .ok (q.2.1, q.2.2) := by decide +kernel
theorem dX8_mix_0 : decode cX8_mix 0 = .ok (.iconst 0, 1) := dd_all DX8_mix_0_ok 0 rfl
theorem dX8_mix_1 : decode cX8_mix 1 = .ok (.istore_n 1, 1) := dd_all DX8_mix_0_ok 1 rfl
theorem dX8_mix_2 : decode cX8_mix 2 = .ok (.iload_n 1, 1) := dd_all DX8_mix_0_ok 2 rfl
theorem dX8_mix_3 : decode cX8_mix 3 = .ok (.iconst 4, 1) := dd_all DX8_mix_0_ok 3 rfl
theorem dX8_mix_4 : decode cX8_mix 4 = .ok (.if_icmp .ge 20, 3) := dd_all DX8_mix_0_ok 4 rfl
theorem dX8_mix_7 : decode cX8_mix 7 = .ok (.aload_n 0, 1) := dd_all DX8_mix_0_ok 5 rfl
theorem dX8_mix_8 : decode cX8_mix 8 = .ok (.getfield 22, 3) := dd_all DX8_mix_0_ok 6 rfl
theorem dX8_mix_11 : decode cX8_mix 11 = .ok (.iload_n 1, 1) := dd_all DX8_mix_0_ok 7 rfl
theorem dX8_mix_12 : decode cX8_mix 12 = .ok (.aload_n 0, 1) := dd_all DX8_mix_0_ok 8 rfl
theorem dX8_mix_13 : decode cX8_mix 13 = .ok (.iload_n 1, 1) := dd_all DX8_mix_0_ok 9 rfl
theorem dX8_mix_14 : decode cX8_mix 14 = .ok (.invokevirtual 125, 3) := dd_all DX8_mix_0_ok 10 rfl
theorem dX8_mix_17 : decode cX8_mix 17 = .ok (.iastore, 1) := dd_all DX8_mix_0_ok 11 rfl
theorem dX8_mix_18 : decode cX8_mix 18 = .ok (.iinc 1 1, 3) := dd_all DX8_mix_0_ok 12 rfl
theorem dX8_mix_21 : decode cX8_mix 21 = .ok (.goto (-19), 3) := dd_all DX8_mix_0_ok 13 rfl
theorem dX8_mix_24 : decode cX8_mix 24 = .ok (.aload_n 0, 1) := dd_all DX8_mix_0_ok 14 rfl
theorem dX8_mix_25 : decode cX8_mix 25 = .ok (.invokevirtual 158, 3) := dd_all DX8_mix_0_ok 15 rfl
theorem dX8_mix_28 : decode cX8_mix 28 = .ok (.ireturn, 1) := dd_all DX8_mix_0_ok 16 rfl
def DX8_alone_0 : List (Nat × Instr × Nat) := [(0, .iload_n 1, 1), (1, .iconst 0, 1), (2, .iconst 1, 1), (3, .invokestatic 39, 3), (6, .ifCond .ne 5, 3), (9, .iconst (-1), 1), (10, .ireturn, 1), (11, .iconst 0, 1), (12, .istore_n 2, 1), (13, .iconst 0, 1), (14, .istore_n 3, 1), (15, .bipush (-4), 2), (17, .istore 4, 2), (19, .iconst 0, 1), (20, .istore 5, 2), (22, .iload 5, 2), (24, .iconst 4, 1), (25, .if_icmp .ge 95, 3), (28, .iconst 0, 1), (29, .istore 6, 2), (31, .iload 6, 2), (33, .iconst 4, 1), (34, .if_icmp .ge 33, 3), (37, .aload_n 0, 1), (38, .getfield 22, 3), (41, .iload 6, 2), (43, .iload 6, 2), (45, .iload 5, 2), (47, .if_icmp .ne 12, 3), (50, .aload_n 0, 1), (51, .iload 5, 2), (53, .invokevirtual 125, 3), (56, .goto 4, 3), (59, .iconst 0, 1), (60, .iastore, 1), (61, .iinc 6 1, 3), (64, .goto (-33), 3), (67, .aload_n 0, 1), (68, .invokevirtual 158, 3), (71, .istore 6, 2)]
theorem DX8_alone_0_ok : ∀ q ∈ DX8_alone_0, decode cX8_alone q.1 = .ok (q.2.1, q.2.2) := by decide +kernel
theorem dX8_alone_0 : decode cX8_alone 0 = .ok (.iload_n 1, 1) := dd_all DX8_alone_0_ok 0 rfl
theorem dX8_alone_1 : decode cX8_alone 1 = .ok (.iconst 0, 1) := dd_all DX8_alone_0_ok 1 rfl
theorem dX8_alone_2 : decode cX8_alone 2 = .ok (.iconst 1, 1) := dd_all DX8_alone_0_ok 2 rfl
theorem dX8_alone_3 : decode cX8_alone 3 = .ok (.invokestatic 39, 3) := dd_all DX8_alone_0_ok 3 rfl
theorem dX8_alone_6 : decode cX8_alone 6 = .ok (.ifCond .ne 5, 3) := dd_all DX8_alone_0_ok 4 rfl
theorem dX8_alone_9 : decode cX8_alone 9 = .ok (.iconst (-1), 1) := dd_all DX8_alone_0_ok 5 rfl
theorem dX8_alone_10 : decode cX8_alone 10 = .ok (.ireturn, 1) := dd_all DX8_alone_0_ok 6 rfl
theorem dX8_alone_11 : decode cX8_alone 11 = .ok (.iconst 0, 1) := dd_all DX8_alone_0_ok 7 rfl
theorem dX8_alone_12 : decode cX8_alone 12 = .ok (.istore_n 2, 1) := dd_all DX8_alone_0_ok 8 rfl
theorem dX8_alone_13 : decode cX8_alone 13 = .ok (.iconst 0, 1) := dd_all DX8_alone_0_ok 9 rfl
theorem dX8_alone_14 : decode cX8_alone 14 = .ok (.istore_n 3, 1) := dd_all DX8_alone_0_ok 10 rfl
theorem dX8_alone_15 : decode cX8_alone 15 = .ok (.bipush (-4), 2) := dd_all DX8_alone_0_ok 11 rfl
theorem dX8_alone_17 : decode cX8_alone 17 = .ok (.istore 4, 2) := dd_all DX8_alone_0_ok 12 rfl
theorem dX8_alone_19 : decode cX8_alone 19 = .ok (.iconst 0, 1) := dd_all DX8_alone_0_ok 13 rfl
theorem dX8_alone_20 : decode cX8_alone 20 = .ok (.istore 5, 2) := dd_all DX8_alone_0_ok 14 rfl
theorem dX8_alone_22 : decode cX8_alone 22 = .ok (.iload 5, 2) := dd_all DX8_alone_0_ok 15 rfl
theorem dX8_alone_24 : decode cX8_alone 24 = .ok (.iconst 4, 1) := dd_all DX8_alone_0_ok 16 rfl
theorem dX8_alone_25 : decode cX8_alone 25 = .ok (.if_icmp .ge 95, 3) := dd_all DX8_alone_0_ok 17 rfl
theorem dX8_alone_28 : decode cX8_alone 28 = .ok (.iconst 0, 1) := dd_all DX8_alone_0_ok 18 rfl
theorem dX8_alone_29 : decode cX8_alone 29 = .ok (.istore 6, 2) := dd_all DX8_alone_0_ok 19 rfl
theorem dX8_alone_31 : decode cX8_alone 31 = .ok (.iload 6, 2) := dd_all DX8_alone_0_ok 20 rfl
theorem dX8_alone_33 : decode cX8_alone 33 = .ok (.iconst 4, 1) := dd_all DX8_alone_0_ok 21 rfl
theorem dX8_alone_34 : decode cX8_alone 34 = .ok (.if_icmp .ge 33, 3) := dd_all DX8_alone_0_ok 22 rfl
theorem dX8_alone_37 : decode cX8_alone 37 = .ok (.aload_n 0, 1) := dd_all DX8_alone_0_ok 23 rfl
theorem dX8_alone_38 : decode cX8_alone 38 = .ok (.getfield 22, 3) := dd_all DX8_alone_0_ok 24 rfl
theorem dX8_alone_41 : decode cX8_alone 41 = .ok (.iload 6, 2) := dd_all DX8_alone_0_ok 25 rfl
theorem dX8_alone_43 : decode cX8_alone 43 = .ok (.iload 6, 2) := dd_all DX8_alone_0_ok 26 rfl
theorem dX8_alone_45 : decode cX8_alone 45 = .ok (.iload 5, 2) := dd_all DX8_alone_0_ok 27 rfl
theorem dX8_alone_47 : decode cX8_alone 47 = .ok (.if_icmp .ne 12, 3) := dd_all DX8_alone_0_ok 28 rfl
theorem dX8_alone_50 : decode cX8_alone 50 = .ok (.aload_n 0, 1) := dd_all DX8_alone_0_ok 29 rfl
theorem dX8_alone_51 : decode cX8_alone 51 = .ok (.iload 5, 2) := dd_all DX8_alone_0_ok 30 rfl
theorem dX8_alone_53 : decode cX8_alone 53 = .ok (.invokevirtual 125, 3) := dd_all DX8_alone_0_ok 31 rfl
theorem dX8_alone_56 : decode cX8_alone 56 = .ok (.goto 4, 3) := dd_all DX8_alone_0_ok 32 rfl
theorem dX8_alone_59 : decode cX8_alone 59 = .ok (.iconst 0, 1) := dd_all DX8_alone_0_ok 33 rfl
theorem dX8_alone_60 : decode cX8_alone 60 = .ok (.iastore, 1) := dd_all DX8_alone_0_ok 34 rfl
theorem dX8_alone_61 : decode cX8_alone 61 = .ok (.iinc 6 1, 3) := dd_all DX8_alone_0_ok 35 rfl
theorem dX8_alone_64 : decode cX8_alone 64 = .ok (.goto (-33), 3) := dd_all DX8_alone_0_ok 36 rfl
theorem dX8_alone_67 : decode cX8_alone 67 = .ok (.aload_n 0, 1) := dd_all DX8_alone_0_ok 37 rfl
theorem dX8_alone_68 : decode cX8_alone 68 = .ok (.invokevirtual 158, 3) := dd_all DX8_alone_0_ok 38 rfl
theorem dX8_alone_71 : decode cX8_alone 71 = .ok (.istore 6, 2) := dd_all DX8_alone_0_ok 39 rfl
def DX8_alone_40 : List (Nat × Instr × Nat) := [(73, .iload_n 2, 1), (74, .iload 6, 2), (76, .ifCond .le 7, 3), (79, .iconst 1, 1), (80, .goto 4, 3), (83, .iconst 0, 1), (84, .iadd, 1), (85, .istore_n 2, 1), (86, .iload 6, 2), (88, .iload_n 3, 1), (89, .if_icmp .le 8, 3), (92, .iload 5, 2), (94, .goto 5, 3), (97, .iload 4, 2), (99, .istore 4, 2), (101, .iload 6, 2), (103, .iload_n 3, 1), (104, .if_icmp .le 8, 3), (107, .iload 6, 2), (109, .goto 4, 3), (112, .iload_n 3, 1), (113, .istore_n 3, 1), (114, .iinc 5 1, 3), (117, .goto (-95), 3), (120, .iload_n 1, 1), (121, .ifCond .ne 7, 3), (124, .iload_n 2, 1), (125, .goto 5, 3), (128, .iload 4, 2), (130, .ireturn, 1)]
theorem DX8_alone_40_ok : ∀ q ∈ DX8_alone_40, decode cX8_alone q.1 = .ok (q.2.1, q.2.2) := by decide +kernel
theorem dX8_alone_73 : decode cX8_alone 73 = .ok (.iload_n 2, 1) := dd_all DX8_alone_40_ok 0 rfl
theorem dX8_alone_74 : decode cX8_alone 74 = .ok (.iload 6, 2) := dd_all DX8_alone_40_ok 1 rfl
theorem dX8_alone_76 : decode cX8_alone 76 = .ok (.ifCond .le 7, 3) := dd_all DX8_alone_40_ok 2 rfl
theorem dX8_alone_79 : decode cX8_alone 79 = .ok (.iconst 1, 1) := dd_all DX8_alone_40_ok 3 rfl
theorem dX8_alone_80 : decode cX8_alone 80 = .ok (.goto 4, 3) := dd_all DX8_alone_40_ok 4 rfl
theorem dX8_alone_83 : decode cX8_alone 83 = .ok (.iconst 0, 1) := dd_all DX8_alone_40_ok 5 rfl
theorem dX8_alone_84 : decode cX8_alone 84 = .ok (.iadd, 1) := dd_all DX8_alone_40_ok 6 rfl
theorem dX8_alone_85 : decode cX8_alone 85 = .ok (.istore_n 2, 1) := dd_all DX8_alone_40_ok 7 rfl
theorem dX8_alone_86 : decode cX8_alone 86 = .ok (.iload 6, 2) := dd_all DX8_alone_40_ok 8 rfl
theorem dX8_alone_88 : decode cX8_alone 88 = .ok (.iload_n 3, 1) := dd_all DX8_alone_40_ok 9 rfl
theorem dX8_alone_89 : decode cX8_alone 89 = .ok (.if_icmp .le 8, 3) := dd_all DX8_alone_40_ok 10 rfl
theorem dX8_alone_92 : decode cX8_alone 92 = .ok (.iload 5, 2) := dd_all DX8_alone_40_ok 11 rfl
theorem dX8_alone_94 : decode cX8_alone 94 = .ok (.goto 5, 3) := dd_all DX8_alone_40_ok 12 rfl
theorem dX8_alone_97 : decode cX8_alone 97 = .ok (.iload 4, 2) := dd_all DX8_alone_40_ok 13 rfl
theorem dX8_alone_99 : decode cX8_alone 99 = .ok (.istore 4, 2) := dd_all DX8_alone_40_ok 14 rfl
theorem dX8_alone_101 : decode cX8_alone 101 = .ok (.iload 6, 2) := dd_all DX8_alone_40_ok 15 rfl
theorem dX8_alone_103 : decode cX8_alone 103 = .ok (.iload_n 3, 1) := dd_all DX8_alone_40_ok 16 rfl
theorem dX8_alone_104 : decode cX8_alone 104 = .ok (.if_icmp .le 8, 3) := dd_all DX8_alone_40_ok 17 rfl
theorem dX8_alone_107 : decode cX8_alone 107 = .ok (.iload 6, 2) := dd_all DX8_alone_40_ok 18 rfl
theorem dX8_alone_109 : decode cX8_alone 109 = .ok (.goto 4, 3) := dd_all DX8_alone_40_ok 19 rfl
theorem dX8_alone_112 : decode cX8_alone 112 = .ok (.iload_n 3, 1) := dd_all DX8_alone_40_ok 20 rfl
theorem dX8_alone_113 : decode cX8_alone 113 = .ok (.istore_n 3, 1) := dd_all DX8_alone_40_ok 21 rfl
theorem dX8_alone_114 : decode cX8_alone 114 = .ok (.iinc 5 1, 3) := dd_all DX8_alone_40_ok 22 rfl
theorem dX8_alone_117 : decode cX8_alone 117 = .ok (.goto (-95), 3) := dd_all DX8_alone_40_ok 23 rfl
theorem dX8_alone_120 : decode cX8_alone 120 = .ok (.iload_n 1, 1) := dd_all DX8_alone_40_ok 24 rfl
theorem dX8_alone_121 : decode cX8_alone 121 = .ok (.ifCond .ne 7, 3) := dd_all DX8_alone_40_ok 25 rfl
theorem dX8_alone_124 : decode cX8_alone 124 = .ok (.iload_n 2, 1) := dd_all DX8_alone_40_ok 26 rfl
theorem dX8_alone_125 : decode cX8_alone 125 = .ok (.goto 5, 3) := dd_all DX8_alone_40_ok 27 rfl
theorem dX8_alone_128 : decode cX8_alone 128 = .ok (.iload 4, 2) := dd_all DX8_alone_40_ok 28 rfl
theorem dX8_alone_130 : decode cX8_alone 130 = .ok (.ireturn, 1) := dd_all DX8_alone_40_ok 29 rfl
