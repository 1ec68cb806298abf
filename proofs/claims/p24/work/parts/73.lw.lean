/-! 56.lb: the law's words are words of the tables -/
theorem lw_pls {ws : List Cond} {is : List Nat} (h : ws.map some = is.map (fun i => lw_tbl[i]?)) : ∀ w ∈ ws, w ∈ lw_tbl := fun w hw => by
  have h2 : some w ∈ ws.map some := List.mem_map_of_mem hw
  rw [h] at h2
  obtain ⟨i, _, hi⟩ := List.mem_map.mp h2
  exact List.mem_of_getElem? hi
set_option maxRecDepth 100000 in
theorem lw_g1 : ∀ w ∈ wsL_law_r1, w ∈ lw_tbl := lw_pls (is := [68, 69, 53, 127, 785, 441, 70, 71, 72, 73, 74, 75, 76, 77, 54, 315, 316, 264, 265, 64, 317, 281, 147, 58]) (by decide +kernel)
set_option maxRecDepth 100000 in
theorem lw_g2 : ∀ w ∈ wsL_law_r2, w ∈ lw_tbl := lw_pls (is := [318, 284, 285, 65, 319, 299, 300, 66, 320, 321, 79, 80, 81, 82, 83, 55, 223, 128, 129, 56, 225, 227, 229, 231]) (by decide +kernel)
set_option maxRecDepth 100000 in
theorem lw_g3 : ∀ w ∈ wsL_law_r3, w ∈ lw_tbl := lw_pls (is := [146, 233, 85, 86, 87, 88, 91, 94, 97, 100, 103, 104, 131, 132, 133, 134, 135, 57, 136, 137, 150, 151, 152, 214]) (by decide +kernel)
set_option maxRecDepth 100000 in
theorem lw_g4 : ∀ w ∈ wsL_law_r4, w ∈ lw_tbl := lw_pls (is := [204, 163, 164, 165, 205, 153, 154, 155, 59, 156, 786, 157, 158, 159, 160, 161, 787, 166, 167, 168, 169, 170, 171, 172]) (by decide +kernel)
set_option maxRecDepth 100000 in
theorem lw_g5 : ∀ w ∈ wsL_law_r5, w ∈ lw_tbl := lw_pls (is := [173, 174, 175, 60, 176, 177, 178, 179, 180, 182, 183, 61, 184, 185, 186, 62, 187, 188, 189, 190, 191, 192, 193, 194]) (by decide +kernel)
set_option maxRecDepth 100000 in
theorem lw_g6 : ∀ w ∈ wsL_law_r6, w ∈ lw_tbl := lw_pls (is := [195, 196, 197, 198, 200, 202, 218, 219, 220, 222, 221, 63, 267, 268, 269, 270, 273, 287, 288, 289, 302, 303, 304, 305]) (by decide +kernel)
set_option maxRecDepth 100000 in
theorem lw_x7 : Cond.code yL_isSo cL_isSo 15 (some .boolean) ∈ tables_1 := List.mem_of_getElem? (i := 643) rfl
set_option maxRecDepth 100000 in
theorem lw_y7 : ∀ w ∈ ([Cond.fieldLink RX4 15 "ChoirBox$Mixer" "joint" "[I", Cond.methodLink RL 129 yL_isSo, Cond.static yL_isSo, Cond.initialized RL] : List Cond), w ∈ lw_tbl := lw_pls (is := [306, 693, 694, 52]) (by decide +kernel)
set_option maxRecDepth 100000 in
theorem lw_z7 : ∀ w ∈ ([Cond.constantLong RL 9 (-1), Cond.methodLink RL 103 yL_sum, Cond.static yL_sum, Cond.code yL_sum cL_sum 4 (some .int), Cond.methodLink RL 17 yL_is, Cond.static yL_is, Cond.code yL_is cL_is 2 (some .int), Cond.methodLink RL 11 yL_get, Cond.static yL_get, Cond.code yL_get cL_get 4 (some .int), Cond.methodLink RL 29 yL_level, Cond.static yL_level, Cond.code yL_level cL_level 2 (some .int), Cond.methodLink RL 21 yL_placed, Cond.static yL_placed, Cond.code yL_placed cL_placed 2 (some .boolean), Cond.methodLink RL 106 yX7_noteOf, Cond.instanceMethod yX7_noteOf, Cond.selects RX7 yX7_noteOf yX7_noteOf] : List Cond), w ∈ lw_tbl := lw_pls (is := [473, 690, 691, 692, 455, 456, 457, 458, 459, 460, 464, 465, 466, 452, 453, 454, 337, 338, 339]) (by decide +kernel)
theorem lw_g7 : ∀ w ∈ wsL_law_r7, w ∈ lw_tbl := by
  intro w hw
  rcases List.mem_append.mp (show w ∈ ([Cond.fieldLink RX4 15 "ChoirBox$Mixer" "joint" "[I", Cond.methodLink RL 129 yL_isSo, Cond.static yL_isSo, Cond.initialized RL] : List Cond) ++ (Cond.code yL_isSo cL_isSo 15 (some .boolean) :: ([Cond.constantLong RL 9 (-1), Cond.methodLink RL 103 yL_sum, Cond.static yL_sum, Cond.code yL_sum cL_sum 4 (some .int), Cond.methodLink RL 17 yL_is, Cond.static yL_is, Cond.code yL_is cL_is 2 (some .int), Cond.methodLink RL 11 yL_get, Cond.static yL_get, Cond.code yL_get cL_get 4 (some .int), Cond.methodLink RL 29 yL_level, Cond.static yL_level, Cond.code yL_level cL_level 2 (some .int), Cond.methodLink RL 21 yL_placed, Cond.static yL_placed, Cond.code yL_placed cL_placed 2 (some .boolean), Cond.methodLink RL 106 yX7_noteOf, Cond.instanceMethod yX7_noteOf, Cond.selects RX7 yX7_noteOf yX7_noteOf] : List Cond)) from hw) with h | h
  · exact lw_y7 w h
  · rcases List.mem_cons.mp h with h | h
    · rw [h]; exact List.mem_append_right _ lw_x7
    · exact lw_z7 w h
set_option maxRecDepth 100000 in
theorem lw_g8 : ∀ w ∈ wsL_law_r8, w ∈ lw_tbl := lw_pls (is := [340, 341, 342, 343, 346, 0, 347, 351, 1, 352, 353, 355, 2, 356, 359, 3, 360, 138, 365, 4, 366, 369, 5, 370]) (by decide +kernel)
set_option maxRecDepth 100000 in
theorem lw_g9 : ∀ w ∈ wsL_law_r9, w ∈ lw_tbl := lw_pls (is := [371, 372, 373, 401, 402, 403, 404, 383, 384, 385, 407, 9, 408, 412, 10, 413, 414, 415, 417, 11, 418, 419, 574, 575]) (by decide +kernel)
set_option maxRecDepth 100000 in
theorem lw_g10 : ∀ w ∈ wsL_law_r10, w ∈ lw_tbl := lw_pls (is := [576, 374, 375, 376, 377, 379, 380, 381, 382, 386, 387, 388, 391, 6, 392, 393, 395, 7, 396, 399, 8, 400, 449, 450]) (by decide +kernel)
set_option maxRecDepth 100000 in
theorem lw_g11 : ∀ w ∈ wsL_law_r11, w ∈ lw_tbl := lw_pls (is := [451, 696, 697, 698, 699, 489, 16, 490, 491, 493, 17, 494, 577, 578, 579, 580, 420, 421, 422, 423, 426, 12, 427, 428]) (by decide +kernel)
set_option maxRecDepth 100000 in
theorem lw_g12 : ∀ w ∈ wsL_law_r12, w ∈ lw_tbl := lw_pls (is := [431, 13, 432, 433, 701, 702, 703, 704, 627, 538, 539, 707, 49, 708, 307, 709, 711, 50, 712, 527, 25, 528, 716, 717]) (by decide +kernel)
set_option maxRecDepth 100000 in
theorem lw_g13 : ∀ w ∈ wsL_law_r13, w ∈ lw_tbl := lw_pls (is := [719, 720, 721, 722, 723, 724, 725, 726, 727, 728, 729, 730, 734, 735, 731, 732, 733, 736, 737, 738, 739, 740, 741, 742]) (by decide +kernel)
set_option maxRecDepth 100000 in
theorem lw_g14 : ∀ w ∈ wsL_law_r14, w ∈ lw_tbl := lw_pls (is := [743, 744, 745, 746, 747, 748, 749, 750, 751, 752, 753, 754, 755, 756, 757, 758, 759, 760, 761, 762, 763, 764, 67, 765]) (by decide +kernel)
set_option maxRecDepth 100000 in
theorem lw_g15 : ∀ w ∈ wsL_law_r15, w ∈ lw_tbl := lw_pls (is := [766, 767, 768, 769, 770, 771, 772, 773, 775, 776, 777, 778, 779, 780, 782, 51, 783, 784, 434, 435, 436, 437, 438, 439]) (by decide +kernel)
set_option maxRecDepth 100000 in
theorem lw_x16 : Cond.code yL_acts cL_acts 10 (some .boolean) ∈ tables_1 := List.mem_of_getElem? (i := 392) rfl
set_option maxRecDepth 100000 in
theorem lw_y16 : ∀ w ∈ ([Cond.code yL_low cL_low 2 (some .int), Cond.methodLink RL 137 yL_acts, Cond.static yL_acts] : List Cond), w ∈ lw_tbl := lw_pls (is := [440, 442, 443]) (by decide +kernel)
set_option maxRecDepth 100000 in
theorem lw_z16 : ∀ w ∈ ([Cond.constant RL 75 (10000000), Cond.methodLink RL 79 yL_knocks, Cond.static yL_knocks, Cond.code yL_knocks cL_knocks 10 (some .boolean), Cond.methodLink RL 54 yL_anew, Cond.static yL_anew, Cond.code yL_anew cL_anew 4 none, Cond.methodLink RL 32 yL_begins, Cond.static yL_begins, Cond.code yL_begins cL_begins 5 none, Cond.methodLink RL 25 yL_put, Cond.static yL_put, Cond.code yL_put cL_put 5 (some .long), Cond.methodLink RL 62 yX7_knock, Cond.instanceMethod yX7_knock, Cond.selects RX7 yX7_knock yX7_knock, Cond.code yX7_knock cX7_knock 5 (some .int), Cond.instanceMethod yX0_takesNewNote, Cond.selects RX0 yX0_takesNewNote yX0_takesNewNote, Cond.code yX0_takesNewNote cX0_takesNewNote 1 (some .boolean)] : List Cond), w ∈ lw_tbl := lw_pls (is := [445, 446, 447, 448, 461, 462, 463, 467, 468, 469, 470, 471, 472, 474, 475, 476, 477, 480, 14, 481]) (by decide +kernel)
theorem lw_g16 : ∀ w ∈ wsL_law_r16, w ∈ lw_tbl := by
  intro w hw
  rcases List.mem_append.mp (show w ∈ ([Cond.code yL_low cL_low 2 (some .int), Cond.methodLink RL 137 yL_acts, Cond.static yL_acts] : List Cond) ++ (Cond.code yL_acts cL_acts 10 (some .boolean) :: ([Cond.constant RL 75 (10000000), Cond.methodLink RL 79 yL_knocks, Cond.static yL_knocks, Cond.code yL_knocks cL_knocks 10 (some .boolean), Cond.methodLink RL 54 yL_anew, Cond.static yL_anew, Cond.code yL_anew cL_anew 4 none, Cond.methodLink RL 32 yL_begins, Cond.static yL_begins, Cond.code yL_begins cL_begins 5 none, Cond.methodLink RL 25 yL_put, Cond.static yL_put, Cond.code yL_put cL_put 5 (some .long), Cond.methodLink RL 62 yX7_knock, Cond.instanceMethod yX7_knock, Cond.selects RX7 yX7_knock yX7_knock, Cond.code yX7_knock cX7_knock 5 (some .int), Cond.instanceMethod yX0_takesNewNote, Cond.selects RX0 yX0_takesNewNote yX0_takesNewNote, Cond.code yX0_takesNewNote cX0_takesNewNote 1 (some .boolean)] : List Cond)) from hw) with h | h
  · exact lw_y16 w h
  · rcases List.mem_cons.mp h with h | h
    · rw [h]; exact List.mem_append_right _ lw_x16
    · exact lw_z16 w h
set_option maxRecDepth 100000 in
theorem lw_g17 : ∀ w ∈ wsL_law_r17, w ∈ lw_tbl := lw_pls (is := [482, 484, 15, 485, 486, 487, 497, 18, 498, 274, 499, 501, 19, 502, 503, 505, 20, 506, 509, 21, 510, 235, 237, 239]) (by decide +kernel)
set_option maxRecDepth 100000 in
theorem lw_g18 : ∀ w ∈ wsL_law_r18, w ∈ lw_tbl := lw_pls (is := [241, 513, 22, 514, 107, 518, 23, 519, 523, 24, 524, 525, 531, 26, 532, 535, 27, 536, 542, 28, 543, 545, 547, 29]) (by decide +kernel)
set_option maxRecDepth 100000 in
theorem lw_g19 : ∀ w ∈ wsL_law_r19, w ∈ lw_tbl := lw_pls (is := [548, 551, 30, 552, 555, 31, 556, 557, 559, 32, 560, 564, 33, 565, 568, 34, 569, 570, 572, 35, 573, 581, 582, 583]) (by decide +kernel)
set_option maxRecDepth 100000 in
theorem lw_g20 : ∀ w ∈ wsL_law_r20, w ∈ lw_tbl := lw_pls (is := [584, 585, 586, 587, 588, 589, 590, 593, 36, 594, 595, 598, 37, 599, 602, 38, 603, 606, 39, 607, 608, 609, 610, 611]) (by decide +kernel)
set_option maxRecDepth 100000 in
theorem lw_x21 : Cond.code yL_moves cL_moves 7 none ∈ tables_1 := List.mem_of_getElem? (i := 581) rfl
set_option maxRecDepth 100000 in
theorem lw_y21 : ∀ w ∈ ([Cond.instanceMethod yX0_movePedal, Cond.selects RX0 yX0_movePedal yX0_movePedal, Cond.code yX0_movePedal cX0_movePedal 5 (some .int), Cond.methodLink RL 91 yL_lifts, Cond.static yL_lifts, Cond.code yL_lifts cL_lifts 4 (some .int), Cond.methodLink RL 94 yX7_set, Cond.instanceMethod yX7_set, Cond.selects RX7 yX7_set yX7_set, Cond.code yX7_set cX7_set 4 (some .int), Cond.fieldLink RX7 111 "ChoirBox" "LEAST_VALUES" "[I", Cond.fieldLink RX7 118 "ChoirBox" "MOST_VALUES" "[I", Cond.methodLink RL 97 yL_tick, Cond.static yL_tick, Cond.code yL_tick cL_tick 4 none, Cond.methodLink RL 46 yL_moves, Cond.static yL_moves] : List Cond), w ∈ lw_tbl := lw_pls (is := [614, 40, 615, 616, 617, 618, 619, 620, 621, 622, 623, 625, 628, 629, 630, 631, 632]) (by decide +kernel)
set_option maxRecDepth 100000 in
theorem lw_z21 : ∀ w ∈ ([Cond.methodLink RL 42 yL_share, Cond.static yL_share, Cond.code yL_share cL_share 2 (some .int), Cond.methodLink RL 101 yX7_tick, Cond.instanceMethod yX7_tick, Cond.selects RX7 yX7_tick yX7_tick] : List Cond), w ∈ lw_tbl := lw_pls (is := [634, 635, 636, 637, 638, 639]) (by decide +kernel)
theorem lw_g21 : ∀ w ∈ wsL_law_r21, w ∈ lw_tbl := by
  intro w hw
  rcases List.mem_append.mp (show w ∈ ([Cond.instanceMethod yX0_movePedal, Cond.selects RX0 yX0_movePedal yX0_movePedal, Cond.code yX0_movePedal cX0_movePedal 5 (some .int), Cond.methodLink RL 91 yL_lifts, Cond.static yL_lifts, Cond.code yL_lifts cL_lifts 4 (some .int), Cond.methodLink RL 94 yX7_set, Cond.instanceMethod yX7_set, Cond.selects RX7 yX7_set yX7_set, Cond.code yX7_set cX7_set 4 (some .int), Cond.fieldLink RX7 111 "ChoirBox" "LEAST_VALUES" "[I", Cond.fieldLink RX7 118 "ChoirBox" "MOST_VALUES" "[I", Cond.methodLink RL 97 yL_tick, Cond.static yL_tick, Cond.code yL_tick cL_tick 4 none, Cond.methodLink RL 46 yL_moves, Cond.static yL_moves] : List Cond) ++ (Cond.code yL_moves cL_moves 7 none :: ([Cond.methodLink RL 42 yL_share, Cond.static yL_share, Cond.code yL_share cL_share 2 (some .int), Cond.methodLink RL 101 yX7_tick, Cond.instanceMethod yX7_tick, Cond.selects RX7 yX7_tick yX7_tick] : List Cond)) from hw) with h | h
  · exact lw_y21 w h
  · rcases List.mem_cons.mp h with h | h
    · rw [h]; exact List.mem_append_right _ lw_x21
    · exact lw_z21 w h
set_option maxRecDepth 100000 in
theorem lw_g22 : ∀ w ∈ wsL_law_r22, w ∈ lw_tbl := lw_pls (is := [640, 641, 644, 41, 645, 646, 648, 42, 649, 652, 43, 653, 654, 656, 44, 657, 663, 661, 662, 664, 666, 45, 667, 676]) (by decide +kernel)
set_option maxRecDepth 100000 in
theorem lw_g23 : ∀ w ∈ wsL_law_r23, w ∈ lw_tbl := lw_pls (is := [668, 670, 46, 671, 679, 681, 47, 682, 683, 685, 687, 48, 688, 689]) (by decide +kernel)
set_option maxRecDepth 100000 in
theorem lw_w0 : ∀ w ∈ wsX00, w ∈ lw_tbl := fun w h => (goodIn_p wsX00 [] (by decide +kernel) (by decide +kernel) w h).1
set_option maxRecDepth 100000 in
theorem lw_w1 : ∀ w ∈ wsX10, w ∈ lw_tbl := fun w h => (goodIn_p wsX10 [] (by decide +kernel) (by decide +kernel) w h).1
set_option maxRecDepth 100000 in
theorem lw_w2 : ∀ w ∈ wsX20, w ∈ lw_tbl := fun w h => (goodIn_p wsX20 [] (by decide +kernel) (by decide +kernel) w h).1
set_option maxRecDepth 100000 in
theorem lw_w3 : ∀ w ∈ wsX30, w ∈ lw_tbl := fun w h => (goodIn_p wsX30 [] (by decide +kernel) (by decide +kernel) w h).1
set_option maxRecDepth 100000 in
theorem lw_w4 : ∀ w ∈ wsX40, w ∈ lw_tbl := fun w h => (goodIn_p wsX40 [] (by decide +kernel) (by decide +kernel) w h).1
set_option maxRecDepth 100000 in
theorem lw_w5 : ∀ w ∈ wsX50, w ∈ lw_tbl := fun w h => (goodIn_p wsX50 [] (by decide +kernel) (by decide +kernel) w h).1
set_option maxRecDepth 100000 in
theorem lw_w6 : ∀ w ∈ wsX60, w ∈ lw_tbl := fun w h => (goodIn_p wsX60 [] (by decide +kernel) (by decide +kernel) w h).1
set_option maxRecDepth 100000 in
theorem lw_w7 : ∀ w ∈ wsX70, w ∈ lw_tbl := fun w h => (goodIn_p wsX70 [] (by decide +kernel) (by decide +kernel) w h).1
theorem lw_or {a b : List Cond} (ha : ∀ w ∈ a, w ∈ lw_tbl) (hb : ∀ w ∈ b, w ∈ lw_tbl) : ∀ w ∈ a ++ b, w ∈ lw_tbl := fun w h => (List.mem_append.mp h).elim (ha w) (hb w)
theorem wsL_law_in : ∀ w ∈ wsL_law, w ∈ lw_tbl := lw_or (lw_or (lw_or (lw_or (lw_or (lw_or (lw_or (lw_or (lw_or (lw_or lw_g1 (lw_or lw_g2 (lw_or lw_g3 (lw_or lw_g4 (lw_or lw_g5 (lw_or lw_g6 (lw_or lw_g7 (lw_or lw_g8 (lw_or lw_g9 (lw_or lw_g10 (lw_or lw_g11 (lw_or lw_g12 (lw_or lw_g13 (lw_or lw_g14 (lw_or lw_g15 (lw_or lw_g16 (lw_or lw_g17 (lw_or lw_g18 (lw_or lw_g19 (lw_or lw_g20 (lw_or lw_g21 (lw_or lw_g22 (lw_g23))))))))))))))))))))))) lw_w7) lw_w0) lw_w2) lw_w1) lw_w6) lw_w4) lw_w5) lw_w3) (fun w h => absurd h List.not_mem_nil)
