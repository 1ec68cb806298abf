/-! small facts for the walks -/
theorem iincP (a d : Nat) : nI a + Int32.ofInt (d : Int) = nI (a + d) := by
  rw [show Int32.ofInt (d : Int) = nI d from rfl, nI_add]
theorem idecP (a : Nat) : nI (a + 1) + Int32.ofInt (-1) = nI a := pk_m1 a
def bI (P : Prop) [Decidable P] : Int32 := if P then nI 1 else nI 0
theorem bI_t {P : Prop} [Decidable P] (h : P) : nI 1 = bI P := (if_pos h).symm
theorem bI_f {P : Prop} [Decidable P] (h : ¬ P) : nI 0 = bI P := (if_neg h).symm
theorem bI_0 {P : Prop} [Decidable P] (h : bI P = 0) : ¬ P := by
  intro hp
  rw [bI, if_pos hp] at h
  exact absurd h (by decide)
theorem bI_n0 {P : Prop} [Decidable P] (h : ¬ bI P = 0) : P := by
  by_cases hp : P
  · exact hp
  · rw [bI, if_neg hp] at h
    exact absurd (show nI 0 = 0 by decide) h
theorem bI_nar {P : Prop} [Decidable P] : narrow .boolean (.int (bI P)) = .int (bI P) := by
  by_cases hp : P
  · rw [← bI_t hp]; decide
  · rw [← bI_f hp]; decide
theorem tsw0_5 {x : Int32} (h0 : ¬ x = nI 0) (h1 : ¬ x = nI 1) (h2 : ¬ x = nI 2) (h3 : ¬ x = nI 3) (h4 : ¬ x = nI 4) : x.toInt < 0 ∨ 4 < x.toInt := by
  have e (k : Nat) (hk : k < 5) : (nI k).toInt = k := nI_toInt (by omega)
  have g (k : Nat) (hk : k < 5) (h : ¬ x = nI k) : x.toInt ≠ k := fun z => h (Int32.toInt_inj.mp (by rw [e k hk]; exact z))
  have := g 0 (by omega) h0; have := g 1 (by omega) h1; have := g 2 (by omega) h2; have := g 3 (by omega) h3; have := g 4 (by omega) h4
  omega
def xmin (a b : Int32) : Int32 := if b < a then b else a
def xmax (a b : Int32) : Int32 := if a < b then b else a
theorem tsw1_5 {x : Int32} (h1 : ¬ x = nI 1) (h2 : ¬ x = nI 2) (h3 : ¬ x = nI 3) (h4 : ¬ x = nI 4) (h5 : ¬ x = nI 5) : x.toInt < 1 ∨ 5 < x.toInt := by
  have e (k : Nat) (hk : k < 6) : (nI k).toInt = k := nI_toInt (by omega)
  have g (k : Nat) (hk : k < 6) (h : ¬ x = nI k) : x.toInt ≠ k := fun z => h (Int32.toInt_inj.mp (by rw [e k hk]; exact z))
  have := g 1 (by omega) h1; have := g 2 (by omega) h2; have := g 3 (by omega) h3; have := g 4 (by omega) h4; have := g 5 (by omega) h5
  omega
theorem tsw0_8 {x : Int32} (h0 : ¬ x = nI 0) (h1 : ¬ x = nI 1) (h2 : ¬ x = nI 2) (h3 : ¬ x = nI 3) (h4 : ¬ x = nI 4) (h5 : ¬ x = nI 5) (h6 : ¬ x = nI 6) (h7 : ¬ x = nI 7) : x.toInt < 0 ∨ 7 < x.toInt := by
  have e (k : Nat) (hk : k < 8) : (nI k).toInt = k := nI_toInt (by omega)
  have g (k : Nat) (hk : k < 8) (h : ¬ x = nI k) : x.toInt ≠ k := fun z => h (Int32.toInt_inj.mp (by rw [e k hk]; exact z))
  have := g 0 (by omega) h0; have := g 1 (by omega) h1; have := g 2 (by omega) h2; have := g 3 (by omega) h3; have := g 4 (by omega) h4; have := g 5 (by omega) h5; have := g 6 (by omega) h6; have := g 7 (by omega) h7
  omega
theorem tsw0_23 {x : Int32} (h0 : ¬ x = nI 0) (h1 : ¬ x = nI 1) (h2 : ¬ x = nI 2) (h3 : ¬ x = nI 3) (h4 : ¬ x = nI 4) (h5 : ¬ x = nI 5) (h6 : ¬ x = nI 6) (h7 : ¬ x = nI 7) (h8 : ¬ x = nI 8) (h9 : ¬ x = nI 9) (h10 : ¬ x = nI 10) (h11 : ¬ x = nI 11) (h12 : ¬ x = nI 12) (h13 : ¬ x = nI 13) (h14 : ¬ x = nI 14) (h15 : ¬ x = nI 15) (h16 : ¬ x = nI 16) (h17 : ¬ x = nI 17) (h18 : ¬ x = nI 18) (h19 : ¬ x = nI 19) (h20 : ¬ x = nI 20) (h21 : ¬ x = nI 21) (h22 : ¬ x = nI 22) : x.toInt < 0 ∨ 22 < x.toInt := by
  have e (k : Nat) (hk : k < 23) : (nI k).toInt = k := nI_toInt (by omega)
  have g (k : Nat) (hk : k < 23) (h : ¬ x = nI k) : x.toInt ≠ k := fun z => h (Int32.toInt_inj.mp (by rw [e k hk]; exact z))
  have := g 0 (by omega) h0
  have := g 1 (by omega) h1
  have := g 2 (by omega) h2
  have := g 3 (by omega) h3
  have := g 4 (by omega) h4
  have := g 5 (by omega) h5
  have := g 6 (by omega) h6
  have := g 7 (by omega) h7
  have := g 8 (by omega) h8
  have := g 9 (by omega) h9
  have := g 10 (by omega) h10
  have := g 11 (by omega) h11
  have := g 12 (by omega) h12
  have := g 13 (by omega) h13
  have := g 14 (by omega) h14
  have := g 15 (by omega) h15
  have := g 16 (by omega) h16
  have := g 17 (by omega) h17
  have := g 18 (by omega) h18
  have := g 19 (by omega) h19
  have := g 20 (by omega) h20
  have := g 21 (by omega) h21
  have := g 22 (by omega) h22
  omega
/-! what is known of each method that is called -/
theorem kv_X7_init : KV yX7_init cX7_init 1 none 0 := ⟨kw1_8, kw1_2, by decide +kernel⟩
theorem kv_X0_init : KV yX0_init cX0_init 1 none 0 := ⟨kw2_12, kw1_14, by decide +kernel⟩
theorem kv_X5_init : KV yX5_init cX5_init 1 none 0 := ⟨kw3_4, kw2_16, by decide +kernel⟩
theorem kv_X3_init : KV yX3_init cX3_init 2 none 1 := ⟨kw3_14, kw2_20, by decide +kernel⟩
theorem kv_X1_init : KV yX1_init cX1_init 4 none 1 := ⟨kw3_22, kw1_23, by decide +kernel⟩
theorem kv_J0_length_8abf5 : KV yJ0_length_8abf5 cJ0_length_8abf5 1 (some .int) 0 := ⟨kw4_10, kw4_9, by decide +kernel⟩
theorem kv_J0_coder_7d493 : KV yJ0_coder_7d493 cJ0_coder_7d493 1 (some .byte) 0 := ⟨kw4_15, kw4_9, by decide +kernel⟩
theorem kv_J0_charAt_5068e : KV yJ0_charAt_5068e cJ0_charAt_5068e 2 (some .char) 1 := ⟨kw4_21, kw4_9, by decide +kernel⟩
theorem kv_J0_isLatin1_aae02 : KV yJ0_isLatin1_aae02 cJ0_isLatin1_aae02 1 (some .boolean) 0 := ⟨kw5_1, kw4_9, by decide +kernel⟩
theorem kv_J1_charAt_3b067 : KV yJ1_charAt_3b067 cJ1_charAt_3b067 2 (some .char) 2 := ⟨kw5_5, kw5_4, by decide +kernel⟩
theorem kv_J0_checkIndex_df160 : KV yJ0_checkIndex_df160 cJ0_checkIndex_df160 2 none 2 := ⟨kw5_8, kw4_9, by decide +kernel⟩
theorem kv_J3_checkIndex_8e157 : KV yJ3_checkIndex_8e157 cJ3_checkIndex_8e157 3 (some .int) 3 := ⟨kw5_13, kw5_12, by decide +kernel⟩
theorem kv_X7_copyRow : KV yX7_copyRow cX7_copyRow 3 none 3 := ⟨kw6_8, kw1_2, by decide +kernel⟩
theorem kv_X2_init : KV yX2_init cX2_init 2 none 0 := ⟨kw6_14, kw1_19, by decide +kernel⟩
theorem kv_X6_init : KV yX6_init cX6_init 1 none 0 := ⟨kw6_19, kw2_3, by decide +kernel⟩
theorem kv_X4_init : KV yX4_init cX4_init 1 none 0 := ⟨kw6_22, kw2_7, by decide +kernel⟩
theorem kv_X8_init : KV yX8_init cX8_init 2 none 0 := ⟨kw7_4, kw1_5, by decide +kernel⟩
theorem kv_X7_knock : KV yX7_knock cX7_knock 5 (some .int) 3 := ⟨kw7_16, kw1_2, by decide +kernel⟩
theorem kv_X7_isPart : KV yX7_isPart cX7_isPart 1 (some .boolean) 1 := ⟨kw7_19, kw1_2, by decide +kernel⟩
theorem kv_X7_isPitch : KV yX7_isPitch cX7_isPitch 1 (some .boolean) 1 := ⟨kw7_22, kw1_2, by decide +kernel⟩
theorem kv_X0_voiceOf : KV yX0_voiceOf cX0_voiceOf 3 (some .int) 2 := ⟨kw8_1, kw1_14, by decide +kernel⟩
theorem kv_X0_firstOf : KV yX0_firstOf cX0_firstOf 6 (some .int) 3 := ⟨kw8_5, kw1_14, by decide +kernel⟩
theorem kv_X3_noteAt : KV yX3_noteAt cX3_noteAt 2 (some .int) 1 := ⟨kw8_8, kw2_20, by decide +kernel⟩
theorem kv_X7_at : KV yX7_at cX7_at 2 (some .int) 2 := ⟨kw8_11, kw1_2, by decide +kernel⟩
theorem kv_X5_is : KV yX5_is cX5_is 4 (some .boolean) 3 := ⟨kw8_14, kw2_16, by decide +kernel⟩
theorem kv_X0_takesNewNote : KV yX0_takesNewNote cX0_takesNewNote 1 (some .boolean) 0 := ⟨kw8_17, kw1_14, by decide +kernel⟩
theorem kv_X0_newNoteMustWait : KV yX0_newNoteMustWait cX0_newNoteMustWait 1 (some .boolean) 0 := ⟨kw8_21, kw1_14, by decide +kernel⟩
theorem kv_X0_freePlaces : KV yX0_freePlaces cX0_freePlaces 1 (some .int) 0 := ⟨kw9_1, kw1_14, by decide +kernel⟩
theorem kv_X0_toSendHome : KV yX0_toSendHome cX0_toSendHome 3 (some .int) 0 := ⟨kw9_6, kw1_14, by decide +kernel⟩
theorem kv_X0_firstToGo : KV yX0_firstToGo cX0_firstToGo 7 (some .int) 2 := ⟨kw9_10, kw1_14, by decide +kernel⟩
theorem kv_X2_record : KV yX2_record cX2_record 3 none 1 := ⟨kw9_13, kw1_19, by decide +kernel⟩
theorem kv_X2_dropOldest : KV yX2_dropOldest cX2_dropOldest 3 none 0 := ⟨kw9_18, kw1_19, by decide +kernel⟩
theorem kv_X2_stateAt : KV yX2_stateAt cX2_stateAt 2 (some (.object "ChoirBox$Choir")) 1 := ⟨kw9_22, kw1_19, by decide +kernel⟩
theorem kv_X0_copyFrom : KV yX0_copyFrom cX0_copyFrom 2 none 1 := ⟨kw10_1, kw1_14, by decide +kernel⟩
theorem kv_X5_copyFrom : KV yX5_copyFrom cX5_copyFrom 2 none 1 := ⟨kw10_8, kw2_16, by decide +kernel⟩
theorem kv_X3_copyFrom : KV yX3_copyFrom cX3_copyFrom 2 none 1 := ⟨kw10_12, kw2_20, by decide +kernel⟩
theorem kv_X1_copyFrom : KV yX1_copyFrom cX1_copyFrom 4 none 1 := ⟨kw10_15, kw1_23, by decide +kernel⟩
theorem kv_X1_signAt : KV yX1_signAt cX1_signAt 2 (some .char) 1 := ⟨kw10_19, kw1_23, by decide +kernel⟩
theorem kv_X0_takeNewNote : KV yX0_takeNewNote cX0_takeNewNote 6 (some .int) 3 := ⟨kw10_22, kw1_14, by decide +kernel⟩
theorem kv_X5_append : KV yX5_append cX5_append 5 (some .int) 3 := ⟨kw11_1, kw2_16, by decide +kernel⟩
theorem kv_X7_put : KV yX7_put cX7_put 3 none 3 := ⟨kw11_3, kw1_2, by decide +kernel⟩
theorem kv_X3_append : KV yX3_append cX3_append 2 none 1 := ⟨kw11_6, kw2_20, by decide +kernel⟩
theorem kv_X0_sendHome : KV yX0_sendHome cX0_sendHome 2 none 1 := ⟨kw11_10, kw1_14, by decide +kernel⟩
theorem kv_X3_removeNote : KV yX3_removeNote cX3_removeNote 6 none 1 := ⟨kw11_13, kw2_20, by decide +kernel⟩
theorem kv_X5_startDown : KV yX5_startDown cX5_startDown 3 none 2 := ⟨kw11_16, kw2_16, by decide +kernel⟩
theorem kv_X0_comeIn : KV yX0_comeIn cX0_comeIn 2 none 1 := ⟨kw11_20, kw1_14, by decide +kernel⟩
theorem kv_X0_beginAnew : KV yX0_beginAnew cX0_beginAnew 3 none 2 := ⟨kw11_23, kw1_14, by decide +kernel⟩
theorem kv_X5_startOver : KV yX5_startOver cX5_startOver 3 none 2 := ⟨kw12_2, kw2_16, by decide +kernel⟩
theorem kv_X5_top : KV yX5_top cX5_top 2 (some .int) 1 := ⟨kw12_6, kw2_16, by decide +kernel⟩
theorem kv_X8_knock : KV yX8_knock cX8_knock 9 (some .int) 3 := ⟨kw12_10, kw1_5, by decide +kernel⟩
theorem kv_X8_in : KV yX8_in cX8_in 3 (some .boolean) 3 := ⟨kw12_13, kw1_5, by decide +kernel⟩
theorem kv_X8_voiceOf : KV yX8_voiceOf cX8_voiceOf 5 (some .int) 2 := ⟨kw12_17, kw1_5, by decide +kernel⟩
theorem kv_X8_hasPlace : KV yX8_hasPlace cX8_hasPlace 2 (some .boolean) 1 := ⟨kw12_21, kw1_5, by decide +kernel⟩
theorem kv_X8_of : KV yX8_of cX8_of 3 (some .int) 2 := ⟨kw13_1, kw1_5, by decide +kernel⟩
theorem kv_X8_changes : KV yX8_changes cX8_changes 2 none 0 := ⟨kw13_5, kw1_5, by decide +kernel⟩
theorem kv_X8_anew : KV yX8_anew cX8_anew 3 none 2 := ⟨kw13_10, kw1_5, by decide +kernel⟩
theorem kv_X8_puts : KV yX8_puts cX8_puts 4 none 3 := ⟨kw13_14, kw1_5, by decide +kernel⟩
theorem kv_X8_peakOf : KV yX8_peakOf cX8_peakOf 2 (some .int) 1 := ⟨kw13_18, kw1_5, by decide +kernel⟩
theorem kv_X8_placed : KV yX8_placed cX8_placed 3 (some .int) 0 := ⟨kw13_22, kw1_5, by decide +kernel⟩
theorem kv_X8_many : KV yX8_many cX8_many 4 (some .int) 1 := ⟨kw14_2, kw1_5, by decide +kernel⟩
theorem kv_X8_sentHome : KV yX8_sentHome cX8_sentHome 6 (some .int) 0 := ⟨kw14_6, kw1_5, by decide +kernel⟩
theorem kv_X8_sings : KV yX8_sings cX8_sings 2 none 1 := ⟨kw14_10, kw1_5, by decide +kernel⟩
theorem kv_X7_release : KV yX7_release cX7_release 4 (some .int) 2 := ⟨kw14_14, kw1_2, by decide +kernel⟩
theorem kv_X0_singerToLetGo : KV yX0_singerToLetGo cX0_singerToLetGo 4 (some .int) 2 := ⟨kw14_17, kw1_14, by decide +kernel⟩
theorem kv_X0_waiterOf : KV yX0_waiterOf cX0_waiterOf 3 (some .int) 2 := ⟨kw14_21, kw1_14, by decide +kernel⟩
theorem kv_X0_letGo : KV yX0_letGo cX0_letGo 2 none 1 := ⟨kw15_0, kw1_14, by decide +kernel⟩
theorem kv_X5_end : KV yX5_end cX5_end 2 none 1 := ⟨kw15_3, kw2_16, by decide +kernel⟩
theorem kv_X8_release : KV yX8_release cX8_release 5 (some .int) 2 := ⟨kw15_7, kw1_5, by decide +kernel⟩
theorem kv_X8_fades : KV yX8_fades cX8_fades 2 none 1 := ⟨kw15_11, kw1_5, by decide +kernel⟩
theorem kv_X7_pedal : KV yX7_pedal cX7_pedal 2 (some .int) 1 := ⟨kw15_15, kw1_2, by decide +kernel⟩
theorem kv_X0_movePedal : KV yX0_movePedal cX0_movePedal 5 (some .int) 1 := ⟨kw15_18, kw1_14, by decide +kernel⟩
theorem kv_X8_pedal : KV yX8_pedal cX8_pedal 2 (some .int) 1 := ⟨kw15_22, kw1_5, by decide +kernel⟩
theorem kv_X8_lifts : KV yX8_lifts cX8_lifts 3 (some .int) 0 := ⟨kw16_2, kw1_5, by decide +kernel⟩
theorem kv_X7_tick : KV yX7_tick cX7_tick 3 (some .int) 1 := ⟨kw16_6, kw1_2, by decide +kernel⟩
theorem kv_X0_passTick : KV yX0_passTick cX0_passTick 1 none 0 := ⟨kw16_10, kw1_14, by decide +kernel⟩
theorem kv_X0_moveAll : KV yX0_moveAll cX0_moveAll 4 none 1 := ⟨kw16_14, kw1_14, by decide +kernel⟩
theorem kv_X5_move : KV yX5_move cX5_move 2 none 1 := ⟨kw16_17, kw2_16, by decide +kernel⟩
theorem kv_X5_rise : KV yX5_rise cX5_rise 4 none 1 := ⟨kw16_21, kw2_16, by decide +kernel⟩
theorem kv_X7_divideUp : KV yX7_divideUp cX7_divideUp 2 (some .int) 2 := ⟨kw17_0, kw1_2, by decide +kernel⟩
theorem kv_X5_sink : KV yX5_sink cX5_sink 5 none 1 := ⟨kw17_4, kw2_16, by decide +kernel⟩
theorem kv_X5_rest : KV yX5_rest cX5_rest 3 (some .int) 2 := ⟨kw17_9, kw2_16, by decide +kernel⟩
theorem kv_X5_goDown : KV yX5_goDown cX5_goDown 4 none 2 := ⟨kw17_13, kw2_16, by decide +kernel⟩
theorem kv_X5_sings : KV yX5_sings cX5_sings 3 (some .boolean) 1 := ⟨kw17_17, kw2_16, by decide +kernel⟩
theorem kv_X0_openDoor : KV yX0_openDoor cX0_openDoor 4 none 0 := ⟨kw17_21, kw1_14, by decide +kernel⟩
theorem kv_X0_sum : KV yX0_sum cX0_sum 3 (some .int) 0 := ⟨kw18_1, kw1_14, by decide +kernel⟩
theorem kv_X0_levelsOf : KV yX0_levelsOf cX0_levelsOf 6 (some .int) 2 := ⟨kw18_5, kw1_14, by decide +kernel⟩
theorem kv_X8_tick : KV yX8_tick cX8_tick 3 (some .int) 1 := ⟨kw18_9, kw1_5, by decide +kernel⟩
theorem kv_X8_ticks : KV yX8_ticks cX8_ticks 2 none 0 := ⟨kw18_14, kw1_5, by decide +kernel⟩
theorem kv_X8_moves : KV yX8_moves cX8_moves 7 none 1 := ⟨kw18_18, kw1_5, by decide +kernel⟩
theorem kv_X8_restOf : KV yX8_restOf cX8_restOf 2 (some .int) 1 := ⟨kw18_22, kw1_5, by decide +kernel⟩
theorem kv_X8_rise : KV yX8_rise cX8_rise 1 (some .int) 1 := ⟨kw19_1, kw1_5, by decide +kernel⟩
theorem kv_X8_up : KV yX8_up cX8_up 2 (some .int) 2 := ⟨kw19_4, kw1_5, by decide +kernel⟩
theorem kv_X8_sink : KV yX8_sink cX8_sink 1 (some .int) 1 := ⟨kw19_7, kw1_5, by decide +kernel⟩
theorem kv_X8_fade : KV yX8_fade cX8_fade 1 (some .int) 1 := ⟨kw19_10, kw1_5, by decide +kernel⟩
theorem kv_X8_comesIn : KV yX8_comesIn cX8_comesIn 4 none 0 := ⟨kw19_14, kw1_5, by decide +kernel⟩
theorem kv_X8_sum : KV yX8_sum cX8_sum 3 (some .int) 0 := ⟨kw19_18, kw1_5, by decide +kernel⟩
theorem kv_X8_isVoice : KV yX8_isVoice cX8_isVoice 2 (some .boolean) 1 := ⟨kw19_22, kw1_5, by decide +kernel⟩
theorem kv_X7_set : KV yX7_set cX7_set 4 (some .int) 2 := ⟨kw20_2, kw1_2, by decide +kernel⟩
theorem kv_X8_set : KV yX8_set cX8_set 5 (some .int) 2 := ⟨kw20_10, kw1_5, by decide +kernel⟩
theorem kv_X7_noteOf : KV yX7_noteOf cX7_noteOf 3 (some .int) 2 := ⟨kw20_14, kw1_2, by decide +kernel⟩
theorem kv_X0_heardOfNote : KV yX0_heardOfNote cX0_heardOfNote 5 (some .int) 2 := ⟨kw20_17, kw1_14, by decide +kernel⟩
theorem kv_X3_indexOf : KV yX3_indexOf cX3_indexOf 3 (some .int) 1 := ⟨kw20_20, kw2_20, by decide +kernel⟩
theorem kv_X7_orNotFound : KV yX7_orNotFound cX7_orNotFound 1 (some .int) 1 := ⟨kw20_23, kw1_2, by decide +kernel⟩
theorem kv_X8_noteOf : KV yX8_noteOf cX8_noteOf 3 (some .int) 2 := ⟨kw21_3, kw1_5, by decide +kernel⟩
theorem kv_X8_isNote : KV yX8_isNote cX8_isNote 2 (some .boolean) 1 := ⟨kw21_7, kw1_5, by decide +kernel⟩
theorem kv_X8_heard : KV yX8_heard cX8_heard 3 (some .int) 1 := ⟨kw21_11, kw1_5, by decide +kernel⟩
theorem kv_X8_ahead : KV yX8_ahead cX8_ahead 4 (some .int) 1 := ⟨kw21_15, kw1_5, by decide +kernel⟩
theorem kv_X7_voiceAt : KV yX7_voiceAt cX7_voiceAt 2 (some .int) 1 := ⟨kw21_19, kw1_2, by decide +kernel⟩
theorem kv_X8_voiceAt : KV yX8_voiceAt cX8_voiceAt 6 (some .int) 1 := ⟨kw21_23, kw1_5, by decide +kernel⟩
theorem kv_X7_find : KV yX7_find cX7_find 3 (some .int) 2 := ⟨kw22_3, kw1_2, by decide +kernel⟩
theorem kv_X8_find : KV yX8_find cX8_find 3 (some .int) 2 := ⟨kw22_7, kw1_5, by decide +kernel⟩
theorem kv_X7_partOf : KV yX7_partOf cX7_partOf 3 (some .int) 2 := ⟨kw22_11, kw1_2, by decide +kernel⟩
theorem kv_X0_howManyOf : KV yX0_howManyOf cX0_howManyOf 5 (some .int) 2 := ⟨kw22_14, kw1_14, by decide +kernel⟩
theorem kv_X0_heardOfPart : KV yX0_heardOfPart cX0_heardOfPart 3 (some .int) 1 := ⟨kw22_17, kw1_14, by decide +kernel⟩
theorem kv_X0_heardOfLine : KV yX0_heardOfLine cX0_heardOfLine 7 (some .int) 3 := ⟨kw22_22, kw1_14, by decide +kernel⟩
theorem kv_X8_partOf : KV yX8_partOf cX8_partOf 6 (some .int) 2 := ⟨kw23_3, kw1_5, by decide +kernel⟩
theorem kv_X8_heardOf : KV yX8_heardOf cX8_heardOf 4 (some .int) 1 := ⟨kw23_7, kw1_5, by decide +kernel⟩
theorem kv_X7_count : KV yX7_count cX7_count 2 (some .int) 1 := ⟨kw23_11, kw1_2, by decide +kernel⟩
theorem kv_X0_heardOfAll : KV yX0_heardOfAll cX0_heardOfAll 3 (some .int) 0 := ⟨kw23_14, kw1_14, by decide +kernel⟩
theorem kv_X8_count : KV yX8_count cX8_count 2 (some .int) 1 := ⟨kw23_19, kw1_5, by decide +kernel⟩
theorem kv_X8_free : KV yX8_free cX8_free 2 (some .int) 0 := ⟨kw24_0, kw1_5, by decide +kernel⟩
theorem kv_X8_heardOfAll : KV yX8_heardOfAll cX8_heardOfAll 1 (some .int) 0 := ⟨kw24_4, kw1_5, by decide +kernel⟩
theorem kv_X7_next : KV yX7_next cX7_next 1 (some .int) 0 := ⟨kw24_8, kw1_2, by decide +kernel⟩
theorem kv_X8_next : KV yX8_next cX8_next 1 (some .int) 0 := ⟨kw24_12, kw1_5, by decide +kernel⟩
theorem kv_X7_peak : KV yX7_peak cX7_peak 4 (some .int) 1 := ⟨kw24_16, kw1_2, by decide +kernel⟩
theorem kv_X8_peak : KV yX8_peak cX8_peak 4 (some .int) 1 := ⟨kw24_21, kw1_5, by decide +kernel⟩
theorem kv_X8_copies : KV yX8_copies cX8_copies 4 none 2 := ⟨kw25_1, kw1_5, by decide +kernel⟩
theorem kv_X7_silence : KV yX7_silence cX7_silence 2 (some .int) 0 := ⟨kw25_5, kw1_2, by decide +kernel⟩
theorem kv_X0_letAllGo : KV yX0_letAllGo cX0_letAllGo 3 none 0 := ⟨kw25_9, kw1_14, by decide +kernel⟩
theorem kv_X8_silence : KV yX8_silence cX8_silence 3 (some .int) 0 := ⟨kw25_13, kw1_5, by decide +kernel⟩
theorem kv_X7_freeIn : KV yX7_freeIn cX7_freeIn 2 (some .int) 0 := ⟨kw25_17, kw1_2, by decide +kernel⟩
theorem kv_X8_freeIn : KV yX8_freeIn cX8_freeIn 2 (some .int) 0 := ⟨kw25_21, kw1_5, by decide +kernel⟩
theorem kv_X7_undo : KV yX7_undo cX7_undo 1 (some .int) 0 := ⟨kw26_1, kw1_2, by decide +kernel⟩
theorem kv_X2_restore : KV yX2_restore cX2_restore 3 none 1 := ⟨kw26_4, kw1_19, by decide +kernel⟩
theorem kv_X8_undo : KV yX8_undo cX8_undo 2 (some .int) 0 := ⟨kw26_8, kw1_5, by decide +kernel⟩
theorem kv_X7_type : KV yX7_type cX7_type 2 (some .int) 1 := ⟨kw26_12, kw1_2, by decide +kernel⟩
theorem kv_X1_append : KV yX1_append cX1_append 2 none 1 := ⟨kw26_15, kw1_23, by decide +kernel⟩
theorem kv_X8_type : KV yX8_type cX8_type 2 (some .int) 1 := ⟨kw26_19, kw1_5, by decide +kernel⟩
theorem kv_X7_clearText : KV yX7_clearText cX7_clearText 2 (some .int) 0 := ⟨kw26_23, kw1_2, by decide +kernel⟩
theorem kv_X8_clearText : KV yX8_clearText cX8_clearText 2 (some .int) 0 := ⟨kw27_3, kw1_5, by decide +kernel⟩
theorem kv_X7_fault : KV yX7_fault cX7_fault 2 (some .int) 1 := ⟨kw27_7, kw1_2, by decide +kernel⟩
theorem kv_X6_read : KV yX6_read cX6_read 3 none 1 := ⟨kw27_10, kw2_3, by decide +kernel⟩
theorem kv_X6_take : KV yX6_take cX6_take 2 (some .int) 1 := ⟨kw27_18, kw2_3, by decide +kernel⟩
theorem kv_X6_takeThing : KV yX6_takeThing cX6_takeThing 2 (some .int) 1 := ⟨kw27_22, kw2_3, by decide +kernel⟩
theorem kv_X6_takeOpening : KV yX6_takeOpening cX6_takeOpening 1 (some .int) 0 := ⟨kw28_2, kw2_3, by decide +kernel⟩
theorem kv_X1_partNamed : KV yX1_partNamed cX1_partNamed 1 (some .int) 1 := ⟨kw28_4, kw1_23, by decide +kernel⟩
theorem kv_J0_indexOf_0f7a4 : KV yJ0_indexOf_0f7a4 cJ0_indexOf_0f7a4 2 (some .int) 1 := ⟨kw28_8, kw4_9, by decide +kernel⟩
theorem kv_J0_indexOf_7cf53 : KV yJ0_indexOf_7cf53 cJ0_indexOf_7cf53 3 (some .int) 2 := ⟨kw28_12, kw4_9, by decide +kernel⟩
theorem kv_J1_indexOf_4cfef : KV yJ1_indexOf_4cfef cJ1_indexOf_4cfef 4 (some .int) 4 := ⟨kw28_16, kw5_4, by decide +kernel⟩
theorem kv_J1_canEncode_9a6ad : KV yJ1_canEncode_9a6ad cJ1_canEncode_9a6ad 1 (some .boolean) 1 := ⟨kw28_21, kw5_4, by decide +kernel⟩
theorem kv_J1_indexOfChar_4cfef : KV yJ1_indexOfChar_4cfef cJ1_indexOfChar_4cfef 6 (some .int) 4 := ⟨kw29_0, kw5_4, by decide +kernel⟩
theorem kv_J0_checkBoundsBeginEnd_23922 : KV yJ0_checkBoundsBeginEnd_23922 cJ0_checkBoundsBeginEnd_23922 3 none 3 := ⟨kw29_15, kw4_9, by decide +kernel⟩
theorem kv_J3_checkFromToIndex_8c36e : KV yJ3_checkFromToIndex_8c36e cJ3_checkFromToIndex_8c36e 4 (some .int) 4 := ⟨kw29_18, kw5_12, by decide +kernel⟩
theorem kv_X6_takeDigit : KV yX6_takeDigit cX6_takeDigit 2 (some .int) 1 := ⟨kw30_16, kw2_3, by decide +kernel⟩
theorem kv_X6_takeBehind : KV yX6_takeBehind cX6_takeBehind 2 (some .int) 1 := ⟨kw30_20, kw2_3, by decide +kernel⟩
theorem kv_X6_mayEnd : KV yX6_mayEnd cX6_mayEnd 1 (some .boolean) 0 := ⟨kw31_0, kw2_3, by decide +kernel⟩
theorem kv_X8_fault : KV yX8_fault cX8_fault 3 (some .int) 1 := ⟨kw31_4, kw1_5, by decide +kernel⟩
theorem kv_X8_faultAt : KV yX8_faultAt cX8_faultAt 5 (some .int) 0 := ⟨kw31_9, kw1_5, by decide +kernel⟩
theorem kv_X8_partBy : KV yX8_partBy cX8_partBy 1 (some .int) 1 := ⟨kw31_12, kw1_5, by decide +kernel⟩
theorem kv_X7_adopt : KV yX7_adopt cX7_adopt 1 (some .int) 0 := ⟨kw31_16, kw1_2, by decide +kernel⟩
theorem kv_X1_howManyParts : KV yX1_howManyParts cX1_howManyParts 3 (some .int) 0 := ⟨kw31_19, kw1_23, by decide +kernel⟩
theorem kv_X8_adopt : KV yX8_adopt cX8_adopt 3 (some .int) 0 := ⟨kw32_0, kw1_5, by decide +kernel⟩
theorem kv_X7_mix : KV yX7_mix cX7_mix 2 (some .int) 0 := ⟨kw32_4, kw1_2, by decide +kernel⟩
theorem kv_X4_result : KV yX4_result cX4_result 7 (some .int) 2 := ⟨kw32_7, kw2_7, by decide +kernel⟩
theorem kv_X4_begin : KV yX4_begin cX4_begin 2 none 1 := ⟨kw32_12, kw2_7, by decide +kernel⟩
theorem kv_X4_times : KV yX4_times cX4_times 3 (some .int) 3 := ⟨kw32_15, kw2_7, by decide +kernel⟩
theorem kv_X4_join : KV yX4_join cX4_join 4 none 1 := ⟨kw32_21, kw2_7, by decide +kernel⟩
theorem kv_X8_mix : KV yX8_mix cX8_mix 2 (some .int) 0 := ⟨kw33_2, kw1_5, by decide +kernel⟩
theorem kv_X8_makes : KV yX8_makes cX8_makes 5 (some .int) 0 := ⟨kw33_6, kw1_5, by decide +kernel⟩
theorem kv_X8_joins : KV yX8_joins cX8_joins 3 (some .int) 3 := ⟨kw33_9, kw1_5, by decide +kernel⟩
theorem kv_X8_cut : KV yX8_cut cX8_cut 1 (some .int) 1 := ⟨kw33_12, kw1_5, by decide +kernel⟩
theorem kv_X7_alone : KV yX7_alone cX7_alone 7 (some .int) 1 := ⟨kw33_17, kw1_2, by decide +kernel⟩
theorem kv_X7_madeAlone : KV yX7_madeAlone cX7_madeAlone 3 (some .int) 1 := ⟨kw33_21, kw1_2, by decide +kernel⟩
theorem kv_X8_alone : KV yX8_alone cX8_alone 7 (some .int) 1 := ⟨kw34_1, kw1_5, by decide +kernel⟩
