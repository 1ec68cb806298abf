/-! small facts for the walks -/
theorem iincP (a d : Nat) : nI a + Int32.ofInt (d : Int) = nI (a + d) := by
  rw [show Int32.ofInt (d : Int) = nI d from rfl, nI_add]
theorem idecP (a : Nat) : nI (a + 1) + Int32.ofInt (-1) = nI a := pk_m1 a
def bI (P : Prop) [Decidable P] : Int32 := if P then nI 1 else nI 0
theorem bI_t {P : Prop} [Decidable P] (h : P) : nI 1 = bI P := (if_pos h).symm
theorem bI_f {P : Prop} [Decidable P] (h : ¬ P) : nI 0 = bI P := (if_neg h).symm
theorem bI_0 {P : Prop} [Decidable P] (h : bI P = 0) : ¬ P := by
  intro hp
  rw [bI, if_pos hp] at h
  exact absurd h (by decide)
theorem bI_n0 {P : Prop} [Decidable P] (h : ¬ bI P = 0) : P := by
  by_cases hp : P
  · exact hp
  · rw [bI, if_neg hp] at h
    exact absurd (show nI 0 = 0 by decide) h
theorem bI_nar {P : Prop} [Decidable P] : narrow .boolean (.int (bI P)) = .int (bI P) := by
  by_cases hp : P
  · rw [← bI_t hp]; decide
  · rw [← bI_f hp]; decide
theorem tsw0_5 {x : Int32} (h0 : ¬ x = nI 0) (h1 : ¬ x = nI 1) (h2 : ¬ x = nI 2) (h3 : ¬ x = nI 3) (h4 : ¬ x = nI 4) : x.toInt < 0 ∨ 4 < x.toInt := by
  have e (k : Nat) (hk : k < 5) : (nI k).toInt = k := nI_toInt (by omega)
  have g (k : Nat) (hk : k < 5) (h : ¬ x = nI k) : x.toInt ≠ k := fun z => h (Int32.toInt_inj.mp (by rw [e k hk]; exact z))
  have := g 0 (by omega) h0; have := g 1 (by omega) h1; have := g 2 (by omega) h2; have := g 3 (by omega) h3; have := g 4 (by omega) h4
  omega
def xmin (a b : Int32) : Int32 := if b < a then b else a
def xmax (a b : Int32) : Int32 := if a < b then b else a
theorem tsw1_5 {x : Int32} (h1 : ¬ x = nI 1) (h2 : ¬ x = nI 2) (h3 : ¬ x = nI 3) (h4 : ¬ x = nI 4) (h5 : ¬ x = nI 5) : x.toInt < 1 ∨ 5 < x.toInt := by
  have e (k : Nat) (hk : k < 6) : (nI k).toInt = k := nI_toInt (by omega)
  have g (k : Nat) (hk : k < 6) (h : ¬ x = nI k) : x.toInt ≠ k := fun z => h (Int32.toInt_inj.mp (by rw [e k hk]; exact z))
  have := g 1 (by omega) h1; have := g 2 (by omega) h2; have := g 3 (by omega) h3; have := g 4 (by omega) h4; have := g 5 (by omega) h5
  omega
theorem tsw0_8 {x : Int32} (h0 : ¬ x = nI 0) (h1 : ¬ x = nI 1) (h2 : ¬ x = nI 2) (h3 : ¬ x = nI 3) (h4 : ¬ x = nI 4) (h5 : ¬ x = nI 5) (h6 : ¬ x = nI 6) (h7 : ¬ x = nI 7) : x.toInt < 0 ∨ 7 < x.toInt := by
  have e (k : Nat) (hk : k < 8) : (nI k).toInt = k := nI_toInt (by omega)
  have g (k : Nat) (hk : k < 8) (h : ¬ x = nI k) : x.toInt ≠ k := fun z => h (Int32.toInt_inj.mp (by rw [e k hk]; exact z))
  have := g 0 (by omega) h0; have := g 1 (by omega) h1; have := g 2 (by omega) h2; have := g 3 (by omega) h3; have := g 4 (by omega) h4; have := g 5 (by omega) h5; have := g 6 (by omega) h6; have := g 7 (by omega) h7
  omega
theorem tsw0_23 {x : Int32} (h0 : ¬ x = nI 0) (h1 : ¬ x = nI 1) (h2 : ¬ x = nI 2) (h3 : ¬ x = nI 3) (h4 : ¬ x = nI 4) (h5 : ¬ x = nI 5) (h6 : ¬ x = nI 6) (h7 : ¬ x = nI 7) (h8 : ¬ x = nI 8) (h9 : ¬ x = nI 9) (h10 : ¬ x = nI 10) (h11 : ¬ x = nI 11) (h12 : ¬ x = nI 12) (h13 : ¬ x = nI 13) (h14 : ¬ x = nI 14) (h15 : ¬ x = nI 15) (h16 : ¬ x = nI 16) (h17 : ¬ x = nI 17) (h18 : ¬ x = nI 18) (h19 : ¬ x = nI 19) (h20 : ¬ x = nI 20) (h21 : ¬ x = nI 21) (h22 : ¬ x = nI 22) : x.toInt < 0 ∨ 22 < x.toInt := by
  have e (k : Nat) (hk : k < 23) : (nI k).toInt = k := nI_toInt (by omega)
  have g (k : Nat) (hk : k < 23) (h : ¬ x = nI k) : x.toInt ≠ k := fun z => h (Int32.toInt_inj.mp (by rw [e k hk]; exact z))
  have := g 0 (by omega) h0
  have := g 1 (by omega) h1
  have := g 2 (by omega) h2
  have := g 3 (by omega) h3
  have := g 4 (by omega) h4
  have := g 5 (by omega) h5
  have := g 6 (by omega) h6
  have := g 7 (by omega) h7
  have := g 8 (by omega) h8
  have := g 9 (by omega) h9
  have := g 10 (by omega) h10
  have := g 11 (by omega) h11
  have := g 12 (by omega) h12
  have := g 13 (by omega) h13
  have := g 14 (by omega) h14
  have := g 15 (by omega) h15
  have := g 16 (by omega) h16
  have := g 17 (by omega) h17
  have := g 18 (by omega) h18
  have := g 19 (by omega) h19
  have := g 20 (by omega) h20
  have := g 21 (by omega) h21
  have := g 22 (by omega) h22
  omega
/-! what is known of each method that is called -/
theorem kv_X7_init : KV yX7_init cX7_init 1 none 0 := ⟨kw1_8, kw1_2, by decide +kernel⟩
theorem kv_X0_init : KV yX0_init cX0_init 1 none 0 := ⟨kw2_11, kw1_14, by decide +kernel⟩
theorem kv_X5_init : KV yX5_init cX5_init 1 none 0 := ⟨kw3_3, kw2_15, by decide +kernel⟩
theorem kv_X3_init : KV yX3_init cX3_init 2 none 1 := ⟨kw3_13, kw2_19, by decide +kernel⟩
theorem kv_X1_init : KV yX1_init cX1_init 4 none 1 := ⟨kw3_21, kw1_23, by decide +kernel⟩
theorem kv_J0_length_8abf5 : KV yJ0_length_8abf5 cJ0_length_8abf5 1 (some .int) 0 := ⟨kw4_9, kw4_8, by decide +kernel⟩
theorem kv_J0_coder_7d493 : KV yJ0_coder_7d493 cJ0_coder_7d493 1 (some .byte) 0 := ⟨kw4_14, kw4_8, by decide +kernel⟩
theorem kv_J0_charAt_5068e : KV yJ0_charAt_5068e cJ0_charAt_5068e 2 (some .char) 1 := ⟨kw4_20, kw4_8, by decide +kernel⟩
theorem kv_J0_isLatin1_aae02 : KV yJ0_isLatin1_aae02 cJ0_isLatin1_aae02 1 (some .boolean) 0 := ⟨kw5_0, kw4_8, by decide +kernel⟩
theorem kv_J1_charAt_3b067 : KV yJ1_charAt_3b067 cJ1_charAt_3b067 2 (some .char) 2 := ⟨kw5_4, kw5_3, by decide +kernel⟩
theorem kv_J0_checkIndex_df160 : KV yJ0_checkIndex_df160 cJ0_checkIndex_df160 2 none 2 := ⟨kw5_7, kw4_8, by decide +kernel⟩
theorem kv_J3_checkIndex_8e157 : KV yJ3_checkIndex_8e157 cJ3_checkIndex_8e157 3 (some .int) 3 := ⟨kw5_12, kw5_11, by decide +kernel⟩
theorem kv_X7_copyRow : KV yX7_copyRow cX7_copyRow 3 none 3 := ⟨kw6_7, kw1_2, by decide +kernel⟩
theorem kv_X2_init : KV yX2_init cX2_init 2 none 0 := ⟨kw6_13, kw1_19, by decide +kernel⟩
theorem kv_X6_init : KV yX6_init cX6_init 1 none 0 := ⟨kw6_18, kw2_3, by decide +kernel⟩
theorem kv_X4_init : KV yX4_init cX4_init 1 none 0 := ⟨kw6_21, kw2_7, by decide +kernel⟩
theorem kv_L_isSo : KV yL_isSo cL_isSo 15 (some .boolean) 3 := ⟨kw7_4, kw7_3, by decide +kernel⟩
theorem kv_L_sum : KV yL_sum cL_sum 4 (some .int) 2 := ⟨kw7_8, kw7_3, by decide +kernel⟩
theorem kv_L_is : KV yL_is cL_is 2 (some .int) 1 := ⟨kw7_11, kw7_3, by decide +kernel⟩
theorem kv_L_get : KV yL_get cL_get 4 (some .int) 3 := ⟨kw7_14, kw7_3, by decide +kernel⟩
theorem kv_L_level : KV yL_level cL_level 2 (some .int) 1 := ⟨kw7_17, kw7_3, by decide +kernel⟩
theorem kv_L_placed : KV yL_placed cL_placed 2 (some .boolean) 1 := ⟨kw7_20, kw7_3, by decide +kernel⟩
theorem kv_X7_noteOf : KV yX7_noteOf cX7_noteOf 3 (some .int) 2 := ⟨kw8_0, kw1_2, by decide +kernel⟩
theorem kv_X7_at : KV yX7_at cX7_at 2 (some .int) 2 := ⟨kw8_3, kw1_2, by decide +kernel⟩
theorem kv_X5_sings : KV yX5_sings cX5_sings 3 (some .boolean) 1 := ⟨kw8_6, kw2_15, by decide +kernel⟩
theorem kv_X0_sum : KV yX0_sum cX0_sum 3 (some .int) 0 := ⟨kw8_9, kw1_14, by decide +kernel⟩
theorem kv_X0_levelsOf : KV yX0_levelsOf cX0_levelsOf 6 (some .int) 2 := ⟨kw8_13, kw1_14, by decide +kernel⟩
theorem kv_X3_noteAt : KV yX3_noteAt cX3_noteAt 2 (some .int) 1 := ⟨kw8_16, kw2_19, by decide +kernel⟩
theorem kv_X0_heardOfNote : KV yX0_heardOfNote cX0_heardOfNote 5 (some .int) 2 := ⟨kw8_20, kw1_14, by decide +kernel⟩
theorem kv_X3_indexOf : KV yX3_indexOf cX3_indexOf 3 (some .int) 1 := ⟨kw8_23, kw2_19, by decide +kernel⟩
theorem kv_X7_orNotFound : KV yX7_orNotFound cX7_orNotFound 1 (some .int) 1 := ⟨kw9_2, kw1_2, by decide +kernel⟩
theorem kv_X7_partOf : KV yX7_partOf cX7_partOf 3 (some .int) 2 := ⟨kw9_6, kw1_2, by decide +kernel⟩
theorem kv_X7_isPart : KV yX7_isPart cX7_isPart 1 (some .boolean) 1 := ⟨kw9_9, kw1_2, by decide +kernel⟩
theorem kv_X0_howManyOf : KV yX0_howManyOf cX0_howManyOf 5 (some .int) 2 := ⟨kw9_12, kw1_14, by decide +kernel⟩
theorem kv_X0_heardOfPart : KV yX0_heardOfPart cX0_heardOfPart 3 (some .int) 1 := ⟨kw9_15, kw1_14, by decide +kernel⟩
theorem kv_X0_heardOfLine : KV yX0_heardOfLine cX0_heardOfLine 7 (some .int) 3 := ⟨kw9_20, kw1_14, by decide +kernel⟩
theorem kv_L_many : KV yL_many cL_many 5 (some .int) 3 := ⟨kw10_0, kw7_3, by decide +kernel⟩
theorem kv_X7_voiceAt : KV yX7_voiceAt cX7_voiceAt 2 (some .int) 1 := ⟨kw10_4, kw1_2, by decide +kernel⟩
theorem kv_X7_find : KV yX7_find cX7_find 3 (some .int) 2 := ⟨kw10_8, kw1_2, by decide +kernel⟩
theorem kv_X7_isPitch : KV yX7_isPitch cX7_isPitch 1 (some .boolean) 1 := ⟨kw10_11, kw1_2, by decide +kernel⟩
theorem kv_X0_voiceOf : KV yX0_voiceOf cX0_voiceOf 3 (some .int) 2 := ⟨kw10_14, kw1_14, by decide +kernel⟩
theorem kv_X0_firstOf : KV yX0_firstOf cX0_firstOf 6 (some .int) 3 := ⟨kw10_18, kw1_14, by decide +kernel⟩
theorem kv_X5_is : KV yX5_is cX5_is 4 (some .boolean) 3 := ⟨kw10_21, kw2_15, by decide +kernel⟩
theorem kv_L_voice : KV yL_voice cL_voice 5 (some .int) 4 := ⟨kw11_0, kw7_3, by decide +kernel⟩
theorem kv_X7_next : KV yX7_next cX7_next 1 (some .int) 0 := ⟨kw11_4, kw1_2, by decide +kernel⟩
theorem kv_X0_toSendHome : KV yX0_toSendHome cX0_toSendHome 3 (some .int) 0 := ⟨kw11_7, kw1_14, by decide +kernel⟩
theorem kv_X0_firstToGo : KV yX0_firstToGo cX0_firstToGo 7 (some .int) 2 := ⟨kw11_11, kw1_14, by decide +kernel⟩
theorem kv_L_home : KV yL_home cL_home 9 (some .int) 2 := ⟨kw11_14, kw7_3, by decide +kernel⟩
theorem kv_X7_count : KV yX7_count cX7_count 2 (some .int) 1 := ⟨kw11_19, kw1_2, by decide +kernel⟩
theorem kv_X0_freePlaces : KV yX0_freePlaces cX0_freePlaces 1 (some .int) 0 := ⟨kw11_22, kw1_14, by decide +kernel⟩
theorem kv_X0_heardOfAll : KV yX0_heardOfAll cX0_heardOfAll 3 (some .int) 0 := ⟨kw12_2, kw1_14, by decide +kernel⟩
theorem kv_X7_mix : KV yX7_mix cX7_mix 2 (some .int) 0 := ⟨kw12_7, kw1_2, by decide +kernel⟩
theorem kv_X7_put : KV yX7_put cX7_put 3 none 3 := ⟨kw12_10, kw1_2, by decide +kernel⟩
theorem kv_X4_result : KV yX4_result cX4_result 7 (some .int) 2 := ⟨kw12_13, kw2_7, by decide +kernel⟩
theorem kv_X4_begin : KV yX4_begin cX4_begin 2 none 1 := ⟨kw12_18, kw2_7, by decide +kernel⟩
theorem kv_X1_signAt : KV yX1_signAt cX1_signAt 2 (some .char) 1 := ⟨kw12_21, kw1_23, by decide +kernel⟩
theorem kv_X1_partNamed : KV yX1_partNamed cX1_partNamed 1 (some .int) 1 := ⟨kw12_23, kw1_23, by decide +kernel⟩
theorem kv_J0_indexOf_0f7a4 : KV yJ0_indexOf_0f7a4 cJ0_indexOf_0f7a4 2 (some .int) 1 := ⟨kw13_3, kw4_8, by decide +kernel⟩
theorem kv_J0_indexOf_7cf53 : KV yJ0_indexOf_7cf53 cJ0_indexOf_7cf53 3 (some .int) 2 := ⟨kw13_7, kw4_8, by decide +kernel⟩
theorem kv_J1_indexOf_4cfef : KV yJ1_indexOf_4cfef cJ1_indexOf_4cfef 4 (some .int) 4 := ⟨kw13_11, kw5_3, by decide +kernel⟩
theorem kv_J1_canEncode_9a6ad : KV yJ1_canEncode_9a6ad cJ1_canEncode_9a6ad 1 (some .boolean) 1 := ⟨kw13_16, kw5_3, by decide +kernel⟩
theorem kv_J1_indexOfChar_4cfef : KV yJ1_indexOfChar_4cfef cJ1_indexOfChar_4cfef 6 (some .int) 4 := ⟨kw13_19, kw5_3, by decide +kernel⟩
theorem kv_J0_checkBoundsBeginEnd_23922 : KV yJ0_checkBoundsBeginEnd_23922 cJ0_checkBoundsBeginEnd_23922 3 none 3 := ⟨kw14_10, kw4_8, by decide +kernel⟩
theorem kv_J3_checkFromToIndex_8c36e : KV yJ3_checkFromToIndex_8c36e cJ3_checkFromToIndex_8c36e 4 (some .int) 4 := ⟨kw14_13, kw5_11, by decide +kernel⟩
theorem kv_X4_times : KV yX4_times cX4_times 3 (some .int) 3 := ⟨kw15_10, kw2_7, by decide +kernel⟩
theorem kv_X4_join : KV yX4_join cX4_join 4 none 1 := ⟨kw15_16, kw2_7, by decide +kernel⟩
theorem kv_L_cell : KV yL_cell cL_cell 2 (some .int) 2 := ⟨kw15_20, kw7_3, by decide +kernel⟩
theorem kv_L_low : KV yL_low cL_low 2 (some .int) 2 := ⟨kw16_0, kw7_3, by decide +kernel⟩
theorem kv_L_acts : KV yL_acts cL_acts 10 (some .boolean) 4 := ⟨kw16_3, kw7_3, by decide +kernel⟩
theorem kv_L_knocks : KV yL_knocks cL_knocks 10 (some .boolean) 6 := ⟨kw16_7, kw7_3, by decide +kernel⟩
theorem kv_L_anew : KV yL_anew cL_anew 4 none 4 := ⟨kw16_10, kw7_3, by decide +kernel⟩
theorem kv_L_begins : KV yL_begins cL_begins 5 none 5 := ⟨kw16_13, kw7_3, by decide +kernel⟩
theorem kv_L_put : KV yL_put cL_put 5 (some .long) 4 := ⟨kw16_16, kw7_3, by decide +kernel⟩
theorem kv_X7_knock : KV yX7_knock cX7_knock 5 (some .int) 3 := ⟨kw16_20, kw1_2, by decide +kernel⟩
theorem kv_X0_takesNewNote : KV yX0_takesNewNote cX0_takesNewNote 1 (some .boolean) 0 := ⟨kw16_23, kw1_14, by decide +kernel⟩
theorem kv_X0_newNoteMustWait : KV yX0_newNoteMustWait cX0_newNoteMustWait 1 (some .boolean) 0 := ⟨kw17_3, kw1_14, by decide +kernel⟩
theorem kv_X2_record : KV yX2_record cX2_record 3 none 1 := ⟨kw17_8, kw1_19, by decide +kernel⟩
theorem kv_X2_dropOldest : KV yX2_dropOldest cX2_dropOldest 3 none 0 := ⟨kw17_13, kw1_19, by decide +kernel⟩
theorem kv_X2_stateAt : KV yX2_stateAt cX2_stateAt 2 (some (.object "ChoirBox$Choir")) 1 := ⟨kw17_17, kw1_19, by decide +kernel⟩
theorem kv_X0_copyFrom : KV yX0_copyFrom cX0_copyFrom 2 none 1 := ⟨kw17_20, kw1_14, by decide +kernel⟩
theorem kv_X5_copyFrom : KV yX5_copyFrom cX5_copyFrom 2 none 1 := ⟨kw18_3, kw2_15, by decide +kernel⟩
theorem kv_X3_copyFrom : KV yX3_copyFrom cX3_copyFrom 2 none 1 := ⟨kw18_7, kw2_19, by decide +kernel⟩
theorem kv_X1_copyFrom : KV yX1_copyFrom cX1_copyFrom 4 none 1 := ⟨kw18_10, kw1_23, by decide +kernel⟩
theorem kv_X0_takeNewNote : KV yX0_takeNewNote cX0_takeNewNote 6 (some .int) 3 := ⟨kw18_14, kw1_14, by decide +kernel⟩
theorem kv_X5_append : KV yX5_append cX5_append 5 (some .int) 3 := ⟨kw18_17, kw2_15, by decide +kernel⟩
theorem kv_X3_append : KV yX3_append cX3_append 2 none 1 := ⟨kw18_20, kw2_19, by decide +kernel⟩
theorem kv_X0_sendHome : KV yX0_sendHome cX0_sendHome 2 none 1 := ⟨kw19_0, kw1_14, by decide +kernel⟩
theorem kv_X3_removeNote : KV yX3_removeNote cX3_removeNote 6 none 1 := ⟨kw19_3, kw2_19, by decide +kernel⟩
theorem kv_X5_startDown : KV yX5_startDown cX5_startDown 3 none 2 := ⟨kw19_6, kw2_15, by decide +kernel⟩
theorem kv_X0_comeIn : KV yX0_comeIn cX0_comeIn 2 none 1 := ⟨kw19_10, kw1_14, by decide +kernel⟩
theorem kv_X0_beginAnew : KV yX0_beginAnew cX0_beginAnew 3 none 2 := ⟨kw19_13, kw1_14, by decide +kernel⟩
theorem kv_X5_startOver : KV yX5_startOver cX5_startOver 3 none 2 := ⟨kw19_16, kw2_15, by decide +kernel⟩
theorem kv_X5_top : KV yX5_top cX5_top 2 (some .int) 1 := ⟨kw19_20, kw2_15, by decide +kernel⟩
theorem kv_L_fades : KV yL_fades cL_fades 3 none 3 := ⟨kw19_23, kw7_3, by decide +kernel⟩
theorem kv_L_lets : KV yL_lets cL_lets 7 (some .boolean) 5 := ⟨kw20_2, kw7_3, by decide +kernel⟩
theorem kv_X7_release : KV yX7_release cX7_release 4 (some .int) 2 := ⟨kw20_6, kw1_2, by decide +kernel⟩
theorem kv_X0_singerToLetGo : KV yX0_singerToLetGo cX0_singerToLetGo 4 (some .int) 2 := ⟨kw20_9, kw1_14, by decide +kernel⟩
theorem kv_X0_waiterOf : KV yX0_waiterOf cX0_waiterOf 3 (some .int) 2 := ⟨kw20_13, kw1_14, by decide +kernel⟩
theorem kv_X0_letGo : KV yX0_letGo cX0_letGo 2 none 1 := ⟨kw20_16, kw1_14, by decide +kernel⟩
theorem kv_X5_end : KV yX5_end cX5_end 2 none 1 := ⟨kw20_19, kw2_15, by decide +kernel⟩
theorem kv_X7_pedal : KV yX7_pedal cX7_pedal 2 (some .int) 1 := ⟨kw20_23, kw1_2, by decide +kernel⟩
theorem kv_X0_movePedal : KV yX0_movePedal cX0_movePedal 5 (some .int) 1 := ⟨kw21_2, kw1_14, by decide +kernel⟩
theorem kv_L_lifts : KV yL_lifts cL_lifts 4 (some .int) 2 := ⟨kw21_5, kw7_3, by decide +kernel⟩
theorem kv_X7_set : KV yX7_set cX7_set 4 (some .int) 2 := ⟨kw21_9, kw1_2, by decide +kernel⟩
theorem kv_L_tick : KV yL_tick cL_tick 4 none 2 := ⟨kw21_14, kw7_3, by decide +kernel⟩
theorem kv_L_moves : KV yL_moves cL_moves 7 none 2 := ⟨kw21_17, kw7_3, by decide +kernel⟩
theorem kv_L_share : KV yL_share cL_share 2 (some .int) 2 := ⟨kw21_20, kw7_3, by decide +kernel⟩
theorem kv_X7_tick : KV yX7_tick cX7_tick 3 (some .int) 1 := ⟨kw22_0, kw1_2, by decide +kernel⟩
theorem kv_X0_passTick : KV yX0_passTick cX0_passTick 1 none 0 := ⟨kw22_4, kw1_14, by decide +kernel⟩
theorem kv_X0_moveAll : KV yX0_moveAll cX0_moveAll 4 none 1 := ⟨kw22_8, kw1_14, by decide +kernel⟩
theorem kv_X5_move : KV yX5_move cX5_move 2 none 1 := ⟨kw22_11, kw2_15, by decide +kernel⟩
theorem kv_X5_rise : KV yX5_rise cX5_rise 4 none 1 := ⟨kw22_15, kw2_15, by decide +kernel⟩
theorem kv_X7_divideUp : KV yX7_divideUp cX7_divideUp 2 (some .int) 2 := ⟨kw22_18, kw1_2, by decide +kernel⟩
theorem kv_X5_sink : KV yX5_sink cX5_sink 5 none 1 := ⟨kw22_22, kw2_15, by decide +kernel⟩
theorem kv_X5_rest : KV yX5_rest cX5_rest 3 (some .int) 2 := ⟨kw23_3, kw2_15, by decide +kernel⟩
theorem kv_X5_goDown : KV yX5_goDown cX5_goDown 4 none 2 := ⟨kw23_7, kw2_15, by decide +kernel⟩
theorem kv_X0_openDoor : KV yX0_openDoor cX0_openDoor 4 none 0 := ⟨kw23_12, kw1_14, by decide +kernel⟩
