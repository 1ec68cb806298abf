/-! ===== BEGIN words of one list among another's, by their places ===== -/
theorem goodIn_r {big : List Cond} (ws : List Cond) (ps : List Nat) (hp : ws = ps.filterMap (fun i => big[i]?)) (h : ws.all goodWord = true) : GoodIn big ws := by
  intro w hw
  have h1 := List.all_eq_true.mp h w hw
  rw [hp] at hw
  obtain ⟨i, -, hi⟩ := List.mem_filterMap.mp hw
  have hm : w ∈ big := by first | exact List.mem_of_getElem? hi | exact List.getElem?_mem hi
  exact ⟨hm, good_of_word h1⟩
theorem goodIn_app {big a b : List Cond} (ha : GoodIn big a) (hb : GoodIn big b) : GoodIn big (a ++ b) := fun w h => (List.mem_append.mp h).elim (ha w) (hb w)
theorem goodIn_sub {big ws : List Cond} (hm : ∀ w ∈ ws, w ∈ big) (h : ws.all goodWord = true) : GoodIn big ws := fun w hw => ⟨hm w hw, good_of_word (List.all_eq_true.mp h w hw)⟩
/-! ===== END ===== -/

/-! ===== BEGIN printed: names, fields, word lists, decode rows ===== -/
def RX0 : String := "ChoirBox$Choir"
def TX0 : u_T := fun k => match k with
  | 0 => ("ChoirBox$Choir", "notes", "LChoirBox$Notes;", true)
  | 1 => ("ChoirBox$Choir", "placed", "LChoirBox$Line;", true)
  | 2 => ("ChoirBox$Choir", "leaving", "LChoirBox$Line;", true)
  | 3 => ("ChoirBox$Choir", "door", "LChoirBox$Line;", true)
  | 4 => ("ChoirBox$Choir", "settings", "[I", true)
  | 5 => ("ChoirBox$Choir", "formula", "LChoirBox$Formula;", true)
  | 6 => ("ChoirBox$Choir", "time", "I", false)
  | 7 => ("ChoirBox$Choir", "pedalDown", "I", false)
  | 8 => ("ChoirBox$Choir", "sentHome", "I", false)
  | _ => ("ChoirBox$Choir", "begunAnew", "I", false)
def tyX0 : Nat → FieldType := fun k => match k with
  | 0 => .object "ChoirBox$Notes"
  | 1 => .object "ChoirBox$Line"
  | 2 => .object "ChoirBox$Line"
  | 3 => .object "ChoirBox$Line"
  | 4 => .array .int
  | 5 => .object "ChoirBox$Formula"
  | 6 => .int
  | 7 => .int
  | 8 => .int
  | _ => .int
abbrev wsX00 : List Cond := u_ws RX0 TX0 10
theorem nmX0 : ∀ a, a < 10 → ∀ b, b < 10 → a ≠ b → (TX0 a).2.1 ≠ (TX0 b).2.1 := by decide +kernel
theorem tyX0_ok : ∀ k, k < 10 → parseFieldDescriptor (TX0 k).2.2.1 = some (tyX0 k) := by decide +kernel
abbrev cX0_init : ByteArray := prog_2_method_1_code
def yX0_init : MethodName := ⟨RX0, "<init>", "()V"⟩
abbrev cX0_copyFrom : ByteArray := prog_2_method_2_code
def yX0_copyFrom : MethodName := ⟨RX0, "copyFrom", "(LChoirBox$Choir;)V"⟩
abbrev cX0_firstOf : ByteArray := prog_2_method_3_code
def yX0_firstOf : MethodName := ⟨RX0, "firstOf", "(LChoirBox$Line;II)I"⟩
abbrev cX0_voiceOf : ByteArray := prog_2_method_4_code
def yX0_voiceOf : MethodName := ⟨RX0, "voiceOf", "(II)I"⟩
abbrev cX0_waiterOf : ByteArray := prog_2_method_5_code
def yX0_waiterOf : MethodName := ⟨RX0, "waiterOf", "(II)I"⟩
abbrev cX0_singerToLetGo : ByteArray := prog_2_method_6_code
def yX0_singerToLetGo : MethodName := ⟨RX0, "singerToLetGo", "(II)I"⟩
abbrev cX0_freePlaces : ByteArray := prog_2_method_7_code
def yX0_freePlaces : MethodName := ⟨RX0, "freePlaces", "()I"⟩
abbrev cX0_toSendHome : ByteArray := prog_2_method_8_code
def yX0_toSendHome : MethodName := ⟨RX0, "toSendHome", "()I"⟩
abbrev cX0_firstToGo : ByteArray := prog_2_method_9_code
def yX0_firstToGo : MethodName := ⟨RX0, "firstToGo", "(IZ)I"⟩
abbrev cX0_newNoteMustWait : ByteArray := prog_2_method_10_code
def yX0_newNoteMustWait : MethodName := ⟨RX0, "newNoteMustWait", "()Z"⟩
abbrev cX0_takesNewNote : ByteArray := prog_2_method_11_code
def yX0_takesNewNote : MethodName := ⟨RX0, "takesNewNote", "()Z"⟩
abbrev cX0_takeNewNote : ByteArray := prog_2_method_12_code
def yX0_takeNewNote : MethodName := ⟨RX0, "takeNewNote", "(III)I"⟩
abbrev cX0_sendHome : ByteArray := prog_2_method_13_code
def yX0_sendHome : MethodName := ⟨RX0, "sendHome", "(I)V"⟩
abbrev cX0_comeIn : ByteArray := prog_2_method_14_code
def yX0_comeIn : MethodName := ⟨RX0, "comeIn", "(I)V"⟩
abbrev cX0_beginAnew : ByteArray := prog_2_method_15_code
def yX0_beginAnew : MethodName := ⟨RX0, "beginAnew", "(II)V"⟩
abbrev cX0_letGo : ByteArray := prog_2_method_16_code
def yX0_letGo : MethodName := ⟨RX0, "letGo", "(I)V"⟩
abbrev cX0_movePedal : ByteArray := prog_2_method_17_code
def yX0_movePedal : MethodName := ⟨RX0, "movePedal", "(I)I"⟩
abbrev cX0_passTick : ByteArray := prog_2_method_19_code
def yX0_passTick : MethodName := ⟨RX0, "passTick", "()V"⟩
abbrev cX0_moveAll : ByteArray := prog_2_method_20_code
def yX0_moveAll : MethodName := ⟨RX0, "moveAll", "(LChoirBox$Line;)V"⟩
abbrev cX0_openDoor : ByteArray := prog_2_method_21_code
def yX0_openDoor : MethodName := ⟨RX0, "openDoor", "()V"⟩
abbrev cX0_sum : ByteArray := prog_2_method_22_code
def yX0_sum : MethodName := ⟨RX0, "sum", "()I"⟩
abbrev cX0_levelsOf : ByteArray := prog_2_method_23_code
def yX0_levelsOf : MethodName := ⟨RX0, "levelsOf", "(LChoirBox$Line;I)I"⟩
abbrev cX0_howManyOf : ByteArray := prog_2_method_24_code
def yX0_howManyOf : MethodName := ⟨RX0, "howManyOf", "(LChoirBox$Line;I)I"⟩
abbrev cX0_heardOfNote : ByteArray := prog_2_method_25_code
def yX0_heardOfNote : MethodName := ⟨RX0, "heardOfNote", "(II)I"⟩
abbrev cX0_heardOfLine : ByteArray := prog_2_method_26_code
def yX0_heardOfLine : MethodName := ⟨RX0, "heardOfLine", "(LChoirBox$Line;II)I"⟩
abbrev cX0_heardOfPart : ByteArray := prog_2_method_27_code
def yX0_heardOfPart : MethodName := ⟨RX0, "heardOfPart", "(I)I"⟩
abbrev cX0_heardOfAll : ByteArray := prog_2_method_28_code
def yX0_heardOfAll : MethodName := ⟨RX0, "heardOfAll", "()I"⟩
def RX1 : String := "ChoirBox$Formula"
def TX1 : u_T := fun k => match k with
  | 0 => ("ChoirBox$Formula", "signs", "[C", true)
  | _ => ("ChoirBox$Formula", "length", "I", false)
def tyX1 : Nat → FieldType := fun k => match k with
  | 0 => .array .char
  | _ => .int
abbrev wsX10 : List Cond := u_ws RX1 TX1 2
theorem nmX1 : ∀ a, a < 2 → ∀ b, b < 2 → a ≠ b → (TX1 a).2.1 ≠ (TX1 b).2.1 := by decide +kernel
theorem tyX1_ok : ∀ k, k < 2 → parseFieldDescriptor (TX1 k).2.2.1 = some (tyX1 k) := by decide +kernel
abbrev cX1_init : ByteArray := prog_3_method_1_code
def yX1_init : MethodName := ⟨RX1, "<init>", "(Ljava/lang/String;)V"⟩
abbrev cX1_signAt : ByteArray := prog_3_method_3_code
def yX1_signAt : MethodName := ⟨RX1, "signAt", "(I)C"⟩
abbrev cX1_copyFrom : ByteArray := prog_3_method_4_code
def yX1_copyFrom : MethodName := ⟨RX1, "copyFrom", "(LChoirBox$Formula;)V"⟩
abbrev cX1_partNamed : ByteArray := prog_3_method_6_code
def yX1_partNamed : MethodName := ⟨RX1, "partNamed", "(C)I"⟩
def RX2 : String := "ChoirBox$History"
def TX2 : u_T := fun k => match k with
  | 0 => ("ChoirBox$History", "states", "[LChoirBox$Choir;", true)
  | _ => ("ChoirBox$History", "size", "I", false)
def tyX2 : Nat → FieldType := fun k => match k with
  | 0 => .array (.object "ChoirBox$Choir")
  | _ => .int
abbrev wsX20 : List Cond := u_ws RX2 TX2 2
theorem nmX2 : ∀ a, a < 2 → ∀ b, b < 2 → a ≠ b → (TX2 a).2.1 ≠ (TX2 b).2.1 := by decide +kernel
theorem tyX2_ok : ∀ k, k < 2 → parseFieldDescriptor (TX2 k).2.2.1 = some (tyX2 k) := by decide +kernel
abbrev cX2_init : ByteArray := prog_4_method_1_code
def yX2_init : MethodName := ⟨RX2, "<init>", "()V"⟩
abbrev cX2_record : ByteArray := prog_4_method_2_code
def yX2_record : MethodName := ⟨RX2, "record", "(LChoirBox$Choir;)V"⟩
abbrev cX2_stateAt : ByteArray := prog_4_method_4_code
def yX2_stateAt : MethodName := ⟨RX2, "stateAt", "(I)LChoirBox$Choir;"⟩
abbrev cX2_dropOldest : ByteArray := prog_4_method_5_code
def yX2_dropOldest : MethodName := ⟨RX2, "dropOldest", "()V"⟩
def RX3 : String := "ChoirBox$Line"
def TX3 : u_T := fun k => match k with
  | 0 => ("ChoirBox$Line", "numbers", "[I", true)
  | _ => ("ChoirBox$Line", "size", "I", false)
def tyX3 : Nat → FieldType := fun k => match k with
  | 0 => .array .int
  | _ => .int
abbrev wsX30 : List Cond := u_ws RX3 TX3 2
theorem nmX3 : ∀ a, a < 2 → ∀ b, b < 2 → a ≠ b → (TX3 a).2.1 ≠ (TX3 b).2.1 := by decide +kernel
theorem tyX3_ok : ∀ k, k < 2 → parseFieldDescriptor (TX3 k).2.2.1 = some (tyX3 k) := by decide +kernel
abbrev cX3_init : ByteArray := prog_5_method_1_code
def yX3_init : MethodName := ⟨RX3, "<init>", "(I)V"⟩
abbrev cX3_noteAt : ByteArray := prog_5_method_2_code
def yX3_noteAt : MethodName := ⟨RX3, "noteAt", "(I)I"⟩
abbrev cX3_indexOf : ByteArray := prog_5_method_3_code
def yX3_indexOf : MethodName := ⟨RX3, "indexOf", "(I)I"⟩
abbrev cX3_append : ByteArray := prog_5_method_4_code
def yX3_append : MethodName := ⟨RX3, "append", "(I)V"⟩
abbrev cX3_removeNote : ByteArray := prog_5_method_5_code
def yX3_removeNote : MethodName := ⟨RX3, "removeNote", "(I)V"⟩
abbrev cX3_copyFrom : ByteArray := prog_5_method_6_code
def yX3_copyFrom : MethodName := ⟨RX3, "copyFrom", "(LChoirBox$Line;)V"⟩
def RX4 : String := "ChoirBox$Mixer"
def TX4 : u_T := fun k => match k with
  | 0 => ("ChoirBox$Mixer", "made", "[I", true)
  | 1 => ("ChoirBox$Mixer", "joint", "[I", true)
  | _ => ("ChoirBox$Mixer", "open", "I", false)
def tyX4 : Nat → FieldType := fun k => match k with
  | 0 => .array .int
  | 1 => .array .int
  | _ => .int
abbrev wsX40 : List Cond := u_ws RX4 TX4 3
theorem nmX4 : ∀ a, a < 3 → ∀ b, b < 3 → a ≠ b → (TX4 a).2.1 ≠ (TX4 b).2.1 := by decide +kernel
theorem tyX4_ok : ∀ k, k < 3 → parseFieldDescriptor (TX4 k).2.2.1 = some (tyX4 k) := by decide +kernel
abbrev cX4_init : ByteArray := prog_6_method_1_code
def yX4_init : MethodName := ⟨RX4, "<init>", "()V"⟩
abbrev cX4_result : ByteArray := prog_6_method_2_code
def yX4_result : MethodName := ⟨RX4, "result", "(LChoirBox$Formula;[I)I"⟩
abbrev cX4_begin : ByteArray := prog_6_method_3_code
def yX4_begin : MethodName := ⟨RX4, "begin", "(I)V"⟩
abbrev cX4_join : ByteArray := prog_6_method_4_code
def yX4_join : MethodName := ⟨RX4, "join", "(I)V"⟩
abbrev cX4_times : ByteArray := prog_6_method_5_code
def yX4_times : MethodName := ⟨RX4, "times", "(LChoirBox$Formula;II)I"⟩
def RX5 : String := "ChoirBox$Notes"
def TX5 : u_T := fun k => match k with
  | 0 => ("ChoirBox$Notes", "part", "[I", true)
  | 1 => ("ChoirBox$Notes", "pitch", "[I", true)
  | 2 => ("ChoirBox$Notes", "strength", "[I", true)
  | 3 => ("ChoirBox$Notes", "phase", "[I", true)
  | 4 => ("ChoirBox$Notes", "level", "[I", true)
  | 5 => ("ChoirBox$Notes", "start", "[I", true)
  | 6 => ("ChoirBox$Notes", "marked", "[I", true)
  | _ => ("ChoirBox$Notes", "size", "I", false)
def tyX5 : Nat → FieldType := fun k => match k with
  | 0 => .array .int
  | 1 => .array .int
  | 2 => .array .int
  | 3 => .array .int
  | 4 => .array .int
  | 5 => .array .int
  | 6 => .array .int
  | _ => .int
abbrev wsX50 : List Cond := u_ws RX5 TX5 8
theorem nmX5 : ∀ a, a < 8 → ∀ b, b < 8 → a ≠ b → (TX5 a).2.1 ≠ (TX5 b).2.1 := by decide +kernel
theorem tyX5_ok : ∀ k, k < 8 → parseFieldDescriptor (TX5 k).2.2.1 = some (tyX5 k) := by decide +kernel
abbrev cX5_init : ByteArray := prog_7_method_1_code
def yX5_init : MethodName := ⟨RX5, "<init>", "()V"⟩
abbrev cX5_append : ByteArray := prog_7_method_2_code
def yX5_append : MethodName := ⟨RX5, "append", "(III)I"⟩
abbrev cX5_sings : ByteArray := prog_7_method_3_code
def yX5_sings : MethodName := ⟨RX5, "sings", "(I)Z"⟩
abbrev cX5_is : ByteArray := prog_7_method_4_code
def yX5_is : MethodName := ⟨RX5, "is", "(III)Z"⟩
abbrev cX5_top : ByteArray := prog_7_method_5_code
def yX5_top : MethodName := ⟨RX5, "top", "(I)I"⟩
abbrev cX5_rest : ByteArray := prog_7_method_6_code
def yX5_rest : MethodName := ⟨RX5, "rest", "(II)I"⟩
abbrev cX5_startOver : ByteArray := prog_7_method_7_code
def yX5_startOver : MethodName := ⟨RX5, "startOver", "(II)V"⟩
abbrev cX5_startDown : ByteArray := prog_7_method_8_code
def yX5_startDown : MethodName := ⟨RX5, "startDown", "(II)V"⟩
abbrev cX5_end : ByteArray := prog_7_method_9_code
def yX5_end : MethodName := ⟨RX5, "end", "(I)V"⟩
abbrev cX5_move : ByteArray := prog_7_method_10_code
def yX5_move : MethodName := ⟨RX5, "move", "(I)V"⟩
abbrev cX5_rise : ByteArray := prog_7_method_11_code
def yX5_rise : MethodName := ⟨RX5, "rise", "(I)V"⟩
abbrev cX5_sink : ByteArray := prog_7_method_12_code
def yX5_sink : MethodName := ⟨RX5, "sink", "(I)V"⟩
abbrev cX5_goDown : ByteArray := prog_7_method_13_code
def yX5_goDown : MethodName := ⟨RX5, "goDown", "(II)V"⟩
abbrev cX5_copyFrom : ByteArray := prog_7_method_14_code
def yX5_copyFrom : MethodName := ⟨RX5, "copyFrom", "(LChoirBox$Notes;)V"⟩
def RX6 : String := "ChoirBox$Reader"
def TX6 : u_T := fun k => match k with
  | 0 => ("ChoirBox$Reader", "place", "I", false)
  | 1 => ("ChoirBox$Reader", "open", "I", false)
  | 2 => ("ChoirBox$Reader", "position", "I", false)
  | _ => ("ChoirBox$Reader", "reason", "I", false)
def tyX6 : Nat → FieldType := fun k => match k with
  | 0 => .int
  | 1 => .int
  | 2 => .int
  | _ => .int
abbrev wsX60 : List Cond := u_ws RX6 TX6 4
theorem nmX6 : ∀ a, a < 4 → ∀ b, b < 4 → a ≠ b → (TX6 a).2.1 ≠ (TX6 b).2.1 := by decide +kernel
theorem tyX6_ok : ∀ k, k < 4 → parseFieldDescriptor (TX6 k).2.2.1 = some (tyX6 k) := by decide +kernel
abbrev cX6_init : ByteArray := prog_8_method_1_code
def yX6_init : MethodName := ⟨RX6, "<init>", "()V"⟩
def RX7 : String := "ChoirBox"
def TX7 : u_T := fun k => match k with
  | 0 => ("ChoirBox", "now", "LChoirBox$Choir;", true)
  | 1 => ("ChoirBox", "ahead", "LChoirBox$Choir;", true)
  | 2 => ("ChoirBox", "history", "LChoirBox$History;", true)
  | 3 => ("ChoirBox", "text", "LChoirBox$Formula;", true)
  | 4 => ("ChoirBox", "reader", "LChoirBox$Reader;", true)
  | 5 => ("ChoirBox", "mixer", "LChoirBox$Mixer;", true)
  | _ => ("ChoirBox", "shares", "[I", true)
def tyX7 : Nat → FieldType := fun k => match k with
  | 0 => .object "ChoirBox$Choir"
  | 1 => .object "ChoirBox$Choir"
  | 2 => .object "ChoirBox$History"
  | 3 => .object "ChoirBox$Formula"
  | 4 => .object "ChoirBox$Reader"
  | 5 => .object "ChoirBox$Mixer"
  | _ => .array .int
abbrev wsX70 : List Cond := u_ws RX7 TX7 7
theorem nmX7 : ∀ a, a < 7 → ∀ b, b < 7 → a ≠ b → (TX7 a).2.1 ≠ (TX7 b).2.1 := by decide +kernel
theorem tyX7_ok : ∀ k, k < 7 → parseFieldDescriptor (TX7 k).2.2.1 = some (tyX7 k) := by decide +kernel
abbrev cX7_init : ByteArray := prog_1_method_1_code
def yX7_init : MethodName := ⟨RX7, "<init>", "()V"⟩
abbrev cX7_knock : ByteArray := prog_1_method_2_code
def yX7_knock : MethodName := ⟨RX7, "knock", "(III)I"⟩
abbrev cX7_release : ByteArray := prog_1_method_3_code
def yX7_release : MethodName := ⟨RX7, "release", "(II)I"⟩
abbrev cX7_pedal : ByteArray := prog_1_method_4_code
def yX7_pedal : MethodName := ⟨RX7, "pedal", "(I)I"⟩
abbrev cX7_tick : ByteArray := prog_1_method_5_code
def yX7_tick : MethodName := ⟨RX7, "tick", "(I)I"⟩
abbrev cX7_set : ByteArray := prog_1_method_6_code
def yX7_set : MethodName := ⟨RX7, "set", "(II)I"⟩
abbrev cX7_noteOf : ByteArray := prog_1_method_7_code
def yX7_noteOf : MethodName := ⟨RX7, "noteOf", "(II)I"⟩
abbrev cX7_voiceAt : ByteArray := prog_1_method_8_code
def yX7_voiceAt : MethodName := ⟨RX7, "voiceAt", "(I)I"⟩
abbrev cX7_find : ByteArray := prog_1_method_9_code
def yX7_find : MethodName := ⟨RX7, "find", "(II)I"⟩
abbrev cX7_partOf : ByteArray := prog_1_method_10_code
def yX7_partOf : MethodName := ⟨RX7, "partOf", "(II)I"⟩
abbrev cX7_count : ByteArray := prog_1_method_11_code
def yX7_count : MethodName := ⟨RX7, "count", "(I)I"⟩
abbrev cX7_next : ByteArray := prog_1_method_12_code
def yX7_next : MethodName := ⟨RX7, "next", "()I"⟩
abbrev cX7_mix : ByteArray := prog_1_method_21_code
def yX7_mix : MethodName := ⟨RX7, "mix", "()I"⟩
abbrev cX7_isPart : ByteArray := prog_1_method_24_code
def yX7_isPart : MethodName := ⟨RX7, "isPart", "(I)Z"⟩
abbrev cX7_isPitch : ByteArray := prog_1_method_25_code
def yX7_isPitch : MethodName := ⟨RX7, "isPitch", "(I)Z"⟩
abbrev cX7_orNotFound : ByteArray := prog_1_method_26_code
def yX7_orNotFound : MethodName := ⟨RX7, "orNotFound", "(I)I"⟩
abbrev cX7_at : ByteArray := prog_1_method_27_code
def yX7_at : MethodName := ⟨RX7, "at", "([II)I"⟩
abbrev cX7_put : ByteArray := prog_1_method_28_code
def yX7_put : MethodName := ⟨RX7, "put", "([III)V"⟩
abbrev cX7_copyRow : ByteArray := prog_1_method_29_code
def yX7_copyRow : MethodName := ⟨RX7, "copyRow", "([I[II)V"⟩
abbrev cX7_divideUp : ByteArray := prog_1_method_30_code
def yX7_divideUp : MethodName := ⟨RX7, "divideUp", "(II)I"⟩
def RX8 : String := "ChoirBoxModel"
def TX8 : u_T := fun k => match k with
  | _ => ("", "", "", false)
def tyX8 : Nat → FieldType := fun k => match k with
  | _ => .int
abbrev wsX80 : List Cond := u_ws RX8 TX8 0
theorem nmX8 : ∀ a, a < 0 → ∀ b, b < 0 → a ≠ b → (TX8 a).2.1 ≠ (TX8 b).2.1 := by decide +kernel
theorem tyX8_ok : ∀ k, k < 0 → parseFieldDescriptor (TX8 k).2.2.1 = some (tyX8 k) := by decide +kernel
def RJ11 : String := "java/lang/Character"
def TJ11 : u_T := fun k => match k with
  | _ => ("", "", "", false)
def tyJ11 : Nat → FieldType := fun k => match k with
  | _ => .int
abbrev wsJ110 : List Cond := u_ws RJ11 TJ11 0
abbrev cJ11_isValidCodePoint_9a6ad : ByteArray := prog_11_method_11_code
def yJ11_isValidCodePoint_9a6ad : MethodName := ⟨RJ11, "isValidCodePoint", "(I)Z"⟩
abbrev cJ11_highSurrogate_5068e : ByteArray := prog_11_method_28_code
def yJ11_highSurrogate_5068e : MethodName := ⟨RJ11, "highSurrogate", "(I)C"⟩
abbrev cJ11_lowSurrogate_5068e : ByteArray := prog_11_method_29_code
def yJ11_lowSurrogate_5068e : MethodName := ⟨RJ11, "lowSurrogate", "(I)C"⟩
def RJ9 : String := "java/lang/Math"
def TJ9 : u_T := fun k => match k with
  | _ => ("", "", "", false)
def tyJ9 : Nat → FieldType := fun k => match k with
  | _ => .int
abbrev wsJ90 : List Cond := u_ws RJ9 TJ9 0
abbrev cJ9_max_7cf53 : ByteArray := prog_12_method_65_code
def yJ9_max_7cf53 : MethodName := ⟨RJ9, "max", "(II)I"⟩
abbrev cJ9_min_7cf53 : ByteArray := prog_12_method_69_code
def yJ9_min_7cf53 : MethodName := ⟨RJ9, "min", "(II)I"⟩
def RJ0 : String := "java/lang/String"
def TJ0 : u_T := fun k => match k with
  | _ => ("", "", "", false)
def tyJ0 : Nat → FieldType := fun k => match k with
  | _ => .int
abbrev wsJ00 : List Cond := u_ws RJ0 TJ0 0
abbrev cJ0_length_8abf5 : ByteArray := prog_13_method_54_code
def yJ0_length_8abf5 : MethodName := ⟨RJ0, "length", "()I"⟩
abbrev cJ0_charAt_5068e : ByteArray := prog_13_method_56_code
def yJ0_charAt_5068e : MethodName := ⟨RJ0, "charAt", "(I)C"⟩
abbrev cJ0_indexOf_0f7a4 : ByteArray := prog_13_method_79_code
def yJ0_indexOf_0f7a4 : MethodName := ⟨RJ0, "indexOf", "(I)I"⟩
abbrev cJ0_indexOf_7cf53 : ByteArray := prog_13_method_80_code
def yJ0_indexOf_7cf53 : MethodName := ⟨RJ0, "indexOf", "(II)I"⟩
abbrev cJ0_coder_7d493 : ByteArray := prog_13_method_152_code
def yJ0_coder_7d493 : MethodName := ⟨RJ0, "coder", "()B"⟩
abbrev cJ0_isLatin1_aae02 : ByteArray := prog_13_method_154_code
def yJ0_isLatin1_aae02 : MethodName := ⟨RJ0, "isLatin1", "()Z"⟩
abbrev cJ0_checkIndex_df160 : ByteArray := prog_13_method_155_code
def yJ0_checkIndex_df160 : MethodName := ⟨RJ0, "checkIndex", "(II)V"⟩
abbrev cJ0_checkBoundsBeginEnd_23922 : ByteArray := prog_13_method_158_code
def yJ0_checkBoundsBeginEnd_23922 : MethodName := ⟨RJ0, "checkBoundsBeginEnd", "(III)V"⟩
def RJ1 : String := "java/lang/StringLatin1"
def TJ1 : u_T := fun k => match k with
  | _ => ("", "", "", false)
def tyJ1 : Nat → FieldType := fun k => match k with
  | _ => .int
abbrev wsJ10 : List Cond := u_ws RJ1 TJ1 0
abbrev cJ1_charAt_3b067 : ByteArray := prog_14_method_2_code
def yJ1_charAt_3b067 : MethodName := ⟨RJ1, "charAt", "([BI)C"⟩
abbrev cJ1_canEncode_9a6ad : ByteArray := prog_14_method_4_code
def yJ1_canEncode_9a6ad : MethodName := ⟨RJ1, "canEncode", "(I)Z"⟩
abbrev cJ1_indexOf_4cfef : ByteArray := prog_14_method_22_code
def yJ1_indexOf_4cfef : MethodName := ⟨RJ1, "indexOf", "([BIII)I"⟩
abbrev cJ1_indexOfChar_4cfef : ByteArray := prog_14_method_23_code
def yJ1_indexOfChar_4cfef : MethodName := ⟨RJ1, "indexOfChar", "([BIII)I"⟩
def RJ2 : String := "java/lang/StringUTF16"
def TJ2 : u_T := fun k => match k with
  | _ => ("", "", "", false)
def tyJ2 : Nat → FieldType := fun k => match k with
  | _ => .int
abbrev wsJ20 : List Cond := u_ws RJ2 TJ2 0
abbrev cJ2_getChar_3b067 : ByteArray := prog_15_method_5_code
def yJ2_getChar_3b067 : MethodName := ⟨RJ2, "getChar", "([BI)C"⟩
abbrev cJ2_length_9d52b : ByteArray := prog_15_method_6_code
def yJ2_length_9d52b : MethodName := ⟨RJ2, "length", "([B)I"⟩
abbrev cJ2_indexOf_4cfef : ByteArray := prog_15_method_40_code
def yJ2_indexOf_4cfef : MethodName := ⟨RJ2, "indexOf", "([BIII)I"⟩
abbrev cJ2_indexOfChar_4cfef : ByteArray := prog_15_method_47_code
def yJ2_indexOfChar_4cfef : MethodName := ⟨RJ2, "indexOfChar", "([BIII)I"⟩
abbrev cJ2_indexOfCharUnsafe_4cfef : ByteArray := prog_15_method_48_code
def yJ2_indexOfCharUnsafe_4cfef : MethodName := ⟨RJ2, "indexOfCharUnsafe", "([BIII)I"⟩
abbrev cJ2_indexOfSupplementary_4cfef : ByteArray := prog_15_method_49_code
def yJ2_indexOfSupplementary_4cfef : MethodName := ⟨RJ2, "indexOfSupplementary", "([BIII)I"⟩
abbrev cJ2_charAt_3b067 : ByteArray := prog_15_method_83_code
def yJ2_charAt_3b067 : MethodName := ⟨RJ2, "charAt", "([BI)C"⟩
abbrev cJ2_checkIndex_2214a : ByteArray := prog_15_method_91_code
def yJ2_checkIndex_2214a : MethodName := ⟨RJ2, "checkIndex", "(I[B)V"⟩
abbrev cJ2_checkBoundsBeginEnd_d044e : ByteArray := prog_15_method_93_code
def yJ2_checkBoundsBeginEnd_d044e : MethodName := ⟨RJ2, "checkBoundsBeginEnd", "(II[B)V"⟩
def RJ10 : String := "java/lang/System"
def TJ10 : u_T := fun k => match k with
  | _ => ("", "", "", false)
def tyJ10 : Nat → FieldType := fun k => match k with
  | _ => .int
abbrev wsJ100 : List Cond := u_ws RJ10 TJ10 0
def RJ3 : String := "jdk/internal/util/Preconditions"
def TJ3 : u_T := fun k => match k with
  | _ => ("", "", "", false)
def tyJ3 : Nat → FieldType := fun k => match k with
  | _ => .int
abbrev wsJ30 : List Cond := u_ws RJ3 TJ3 0
abbrev cJ3_checkIndex_8e157 : ByteArray := prog_17_method_11_code
def yJ3_checkIndex_8e157 : MethodName := ⟨RJ3, "checkIndex", "(IILjava/util/function/BiFunction;)I"⟩
abbrev cJ3_checkFromToIndex_8c36e : ByteArray := prog_17_method_12_code
def yJ3_checkFromToIndex_8c36e : MethodName := ⟨RJ3, "checkFromToIndex", "(IIILjava/util/function/BiFunction;)I"⟩
def RL : String := "ChoirBoxLaw"
abbrev cL_cell : ByteArray := method_2_code
def yL_cell : MethodName := ⟨RL, "cell", "([II)I"⟩
abbrev cL_low : ByteArray := method_3_code
def yL_low : MethodName := ⟨RL, "low", "(II)I"⟩
abbrev cL_get : ByteArray := method_4_code
def yL_get : MethodName := ⟨RL, "get", "(JII)I"⟩
abbrev cL_put : ByteArray := method_5_code
def yL_put : MethodName := ⟨RL, "put", "(JIII)J"⟩
abbrev cL_is : ByteArray := method_6_code
def yL_is : MethodName := ⟨RL, "is", "(J)I"⟩
abbrev cL_level : ByteArray := method_7_code
def yL_level : MethodName := ⟨RL, "level", "(J)I"⟩
abbrev cL_placed : ByteArray := method_8_code
def yL_placed : MethodName := ⟨RL, "placed", "(J)Z"⟩
abbrev cL_many : ByteArray := method_9_code
def yL_many : MethodName := ⟨RL, "many", "([I[JI)I"⟩
abbrev cL_voice : ByteArray := method_10_code
def yL_voice : MethodName := ⟨RL, "voice", "([I[JII)I"⟩
abbrev cL_begins : ByteArray := method_11_code
def yL_begins : MethodName := ⟨RL, "begins", "([I[JIII)V"⟩
abbrev cL_anew : ByteArray := method_12_code
def yL_anew : MethodName := ⟨RL, "anew", "([I[JII)V"⟩
abbrev cL_home : ByteArray := method_13_code
def yL_home : MethodName := ⟨RL, "home", "([I[J)I"⟩
abbrev cL_share : ByteArray := method_14_code
def yL_share : MethodName := ⟨RL, "share", "(II)I"⟩
abbrev cL_moves : ByteArray := method_15_code
def yL_moves : MethodName := ⟨RL, "moves", "([JI)V"⟩
abbrev cL_tick : ByteArray := method_16_code
def yL_tick : MethodName := ⟨RL, "tick", "([I[J)V"⟩
abbrev cL_sum : ByteArray := method_17_code
def yL_sum : MethodName := ⟨RL, "sum", "([I[J)I"⟩
abbrev cL_fades : ByteArray := method_18_code
def yL_fades : MethodName := ⟨RL, "fades", "([JII)V"⟩
abbrev cL_lifts : ByteArray := method_19_code
def yL_lifts : MethodName := ⟨RL, "lifts", "([I[J)I"⟩
abbrev cL_knocks : ByteArray := method_20_code
def yL_knocks : MethodName := ⟨RL, "knocks", "(LChoirBox;[I[JIII)Z"⟩
abbrev cL_lets : ByteArray := method_21_code
def yL_lets : MethodName := ⟨RL, "lets", "(LChoirBox;[I[JII)Z"⟩
abbrev cL_acts : ByteArray := method_22_code
def yL_acts : MethodName := ⟨RL, "acts", "(LChoirBox;[I[JI)Z"⟩
abbrev cL_isSo : ByteArray := method_23_code
def yL_isSo : MethodName := ⟨RL, "isSo", "(LChoirBox;[I[J)Z"⟩
abbrev cL_law : ByteArray := code
def yL_law : MethodName := ⟨RL, "law", "([I)Z"⟩
def wsL_law_r1 : List Cond := [Cond.classLink RL 63 RX7, Cond.instantiable RX7 7, Cond.initialized RX7, Cond.arrayClass .int, Cond.arrayClass .long, Cond.constant RL 8 (2147483647), Cond.methodLink RL 128 yX7_init, Cond.instanceMethod yX7_init, Cond.code yX7_init cX7_init 1 none, Cond.methodLink RX7 1 objectInit, Cond.instanceMethod objectInit, Cond.code objectInit ⟨#[0xb1]⟩ 1 none, Cond.classLink RX7 7 RX0, Cond.instantiable RX0 10, Cond.initialized RX0, Cond.fieldLink RX7 10 "ChoirBox" "now" "LChoirBox$Choir;", Cond.fieldLink RX7 16 "ChoirBox" "ahead" "LChoirBox$Choir;", Cond.classLink RX7 19 RX2, Cond.instantiable RX2 2, Cond.initialized RX2, Cond.fieldLink RX7 22 "ChoirBox" "history" "LChoirBox$History;", Cond.classLink RX7 26 RX1, Cond.instantiable RX1 2, Cond.initialized RX1]
def wsL_law_r2 : List Cond := [Cond.fieldLink RX7 33 "ChoirBox" "text" "LChoirBox$Formula;", Cond.classLink RX7 37 RX6, Cond.instantiable RX6 4, Cond.initialized RX6, Cond.fieldLink RX7 40 "ChoirBox" "reader" "LChoirBox$Reader;", Cond.classLink RX7 44 RX4, Cond.instantiable RX4 3, Cond.initialized RX4, Cond.fieldLink RX7 47 "ChoirBox" "mixer" "LChoirBox$Mixer;", Cond.fieldLink RX7 51 "ChoirBox" "shares" "[I", Cond.instanceMethod yX0_init, Cond.code yX0_init cX0_init 1 none, Cond.methodLink RX0 3 objectInit, Cond.classLink RX0 9 RX5, Cond.instantiable RX5 8, Cond.initialized RX5, Cond.fieldLink RX0 12 "ChoirBox$Choir" "notes" "LChoirBox$Notes;", Cond.classLink RX0 18 RX3, Cond.instantiable RX3 2, Cond.initialized RX3, Cond.fieldLink RX0 23 "ChoirBox$Choir" "placed" "LChoirBox$Line;", Cond.fieldLink RX0 27 "ChoirBox$Choir" "leaving" "LChoirBox$Line;", Cond.fieldLink RX0 30 "ChoirBox$Choir" "door" "LChoirBox$Line;", Cond.fieldLink RX0 33 "ChoirBox$Choir" "settings" "[I"]
def wsL_law_r3 : List Cond := [Cond.classLink RX0 37 RX1, Cond.fieldLink RX0 44 "ChoirBox$Choir" "formula" "LChoirBox$Formula;", Cond.instanceMethod yX5_init, Cond.code yX5_init cX5_init 1 none, Cond.methodLink RX5 3 objectInit, Cond.fieldLink RX5 9 "ChoirBox$Notes" "part" "[I", Cond.fieldLink RX5 15 "ChoirBox$Notes" "pitch" "[I", Cond.fieldLink RX5 18 "ChoirBox$Notes" "strength" "[I", Cond.fieldLink RX5 21 "ChoirBox$Notes" "phase" "[I", Cond.fieldLink RX5 24 "ChoirBox$Notes" "level" "[I", Cond.fieldLink RX5 27 "ChoirBox$Notes" "start" "[I", Cond.fieldLink RX5 30 "ChoirBox$Notes" "marked" "[I", Cond.instanceMethod yX3_init, Cond.code yX3_init cX3_init 2 none, Cond.methodLink RX3 3 objectInit, Cond.methodLink RX3 9 Lib.Math.max.name, Cond.static Lib.Math.max.name, Cond.initialized "java/lang/Math", Cond.code Lib.Math.max.name Lib.Math.max.code 2 (some .int), Cond.fieldLink RX3 15 "ChoirBox$Line" "numbers" "[I", Cond.instanceMethod yX1_init, Cond.code yX1_init cX1_init 4 none, Cond.methodLink RX1 3 objectInit, Cond.arrayClass .char]
def wsL_law_r4 : List Cond := [Cond.fieldLink RX1 9 "ChoirBox$Formula" "signs" "[C", Cond.methodLink RX1 21 Lib.Math.min.name, Cond.static Lib.Math.min.name, Cond.code Lib.Math.min.name Lib.Math.min.code 2 (some .int), Cond.fieldLink RX1 31 "ChoirBox$Formula" "length" "I", Cond.methodLink RX1 15 yJ0_length_8abf5, Cond.instanceMethod yJ0_length_8abf5, Cond.selects RJ0 yJ0_length_8abf5 yJ0_length_8abf5, Cond.initialized RJ0, Cond.code yJ0_length_8abf5 cJ0_length_8abf5 1 (some .int), Cond.fieldLink RJ0 9 "java/lang/String" "value" "[B", Cond.methodLink RJ0 335 yJ0_coder_7d493, Cond.instanceMethod yJ0_coder_7d493, Cond.selects RJ0 yJ0_coder_7d493 yJ0_coder_7d493, Cond.code yJ0_coder_7d493 cJ0_coder_7d493 1 (some .byte), Cond.fieldLink RJ0 38 "java/lang/String" "COMPACT_STRINGS" "Z", Cond.fieldLink RJ0 15 "java/lang/String" "coder" "B", Cond.methodLink RX1 27 yJ0_charAt_5068e, Cond.instanceMethod yJ0_charAt_5068e, Cond.selects RJ0 yJ0_charAt_5068e yJ0_charAt_5068e, Cond.code yJ0_charAt_5068e cJ0_charAt_5068e 2 (some .char), Cond.methodLink RJ0 492 yJ0_isLatin1_aae02, Cond.instanceMethod yJ0_isLatin1_aae02, Cond.selects RJ0 yJ0_isLatin1_aae02 yJ0_isLatin1_aae02]
def wsL_law_r5 : List Cond := [Cond.code yJ0_isLatin1_aae02 cJ0_isLatin1_aae02 1 (some .boolean), Cond.methodLink RJ0 495 yJ1_charAt_3b067, Cond.static yJ1_charAt_3b067, Cond.initialized RJ1, Cond.code yJ1_charAt_3b067 cJ1_charAt_3b067 2 (some .char), Cond.methodLink RJ1 9 yJ0_checkIndex_df160, Cond.static yJ0_checkIndex_df160, Cond.code yJ0_checkIndex_df160 cJ0_checkIndex_df160 2 none, Cond.fieldLink RJ0 1053 "jdk/internal/util/Preconditions" "SIOOBE_FORMATTER" "Ljava/util/function/BiFunction;", Cond.methodLink RJ0 1059 yJ3_checkIndex_8e157, Cond.static yJ3_checkIndex_8e157, Cond.initialized RJ3, Cond.code yJ3_checkIndex_8e157 cJ3_checkIndex_8e157 3 (some .int), Cond.methodLink RJ0 498 yJ2_charAt_3b067, Cond.static yJ2_charAt_3b067, Cond.initialized RJ2, Cond.code yJ2_charAt_3b067 cJ2_charAt_3b067 2 (some .char), Cond.methodLink RJ2 67 yJ2_checkIndex_2214a, Cond.static yJ2_checkIndex_2214a, Cond.code yJ2_checkIndex_2214a cJ2_checkIndex_2214a 2 none, Cond.methodLink RJ2 48 yJ2_length_9d52b, Cond.static yJ2_length_9d52b, Cond.code yJ2_length_9d52b cJ2_length_9d52b 1 (some .int), Cond.methodLink RJ2 414 yJ0_checkIndex_df160]
def wsL_law_r6 : List Cond := [Cond.methodLink RJ2 71 yJ2_getChar_3b067, Cond.static yJ2_getChar_3b067, Cond.code yJ2_getChar_3b067 cJ2_getChar_3b067 2 (some .char), Cond.fieldLink RJ2 44 "java/lang/StringUTF16" "$assertionsDisabled" "Z", Cond.fieldLink RJ2 59 "java/lang/StringUTF16" "HI_BYTE_SHIFT" "I", Cond.fieldLink RJ2 63 "java/lang/StringUTF16" "LO_BYTE_SHIFT" "I", Cond.static yX7_copyRow, Cond.code yX7_copyRow cX7_copyRow 3 none, Cond.methodLink RX7 256 arraycopyName, Cond.native arraycopyName, Cond.static arraycopyName, Cond.initialized "java/lang/System", Cond.instanceMethod yX2_init, Cond.code yX2_init cX2_init 2 none, Cond.methodLink RX2 3 objectInit, Cond.classLink RX2 9 RX0, Cond.fieldLink RX2 11 "ChoirBox$History" "states" "[LChoirBox$Choir;", Cond.instanceMethod yX6_init, Cond.code yX6_init cX6_init 1 none, Cond.methodLink RX6 3 objectInit, Cond.instanceMethod yX4_init, Cond.code yX4_init cX4_init 1 none, Cond.methodLink RX4 3 objectInit, Cond.fieldLink RX4 9 "ChoirBox$Mixer" "made" "[I"]
def wsL_law_r7 : List Cond := [Cond.fieldLink RX4 15 "ChoirBox$Mixer" "joint" "[I", Cond.methodLink RL 129 yL_isSo, Cond.static yL_isSo, Cond.initialized RL, Cond.code yL_isSo cL_isSo 15 (some .boolean), Cond.constantLong RL 9 (-1), Cond.methodLink RL 103 yL_sum, Cond.static yL_sum, Cond.code yL_sum cL_sum 4 (some .int), Cond.methodLink RL 17 yL_is, Cond.static yL_is, Cond.code yL_is cL_is 2 (some .int), Cond.methodLink RL 11 yL_get, Cond.static yL_get, Cond.code yL_get cL_get 4 (some .int), Cond.methodLink RL 29 yL_level, Cond.static yL_level, Cond.code yL_level cL_level 2 (some .int), Cond.methodLink RL 21 yL_placed, Cond.static yL_placed, Cond.code yL_placed cL_placed 2 (some .boolean), Cond.methodLink RL 106 yX7_noteOf, Cond.instanceMethod yX7_noteOf, Cond.selects RX7 yX7_noteOf yX7_noteOf]
def wsL_law_r8 : List Cond := [Cond.code yX7_noteOf cX7_noteOf 3 (some .int), Cond.methodLink RX7 114 yX7_at, Cond.static yX7_at, Cond.code yX7_at cX7_at 2 (some .int), Cond.instanceMethod yX5_sings, Cond.selects RX5 yX5_sings yX5_sings, Cond.code yX5_sings cX5_sings 3 (some .boolean), Cond.instanceMethod yX0_sum, Cond.selects RX0 yX0_sum yX0_sum, Cond.code yX0_sum cX0_sum 3 (some .int), Cond.methodLink RX0 185 yX0_levelsOf, Cond.instanceMethod yX0_levelsOf, Cond.selects RX0 yX0_levelsOf yX0_levelsOf, Cond.code yX0_levelsOf cX0_levelsOf 6 (some .int), Cond.instanceMethod yX3_noteAt, Cond.selects RX3 yX3_noteAt yX3_noteAt, Cond.code yX3_noteAt cX3_noteAt 2 (some .int), Cond.fieldLink RX3 21 "ChoirBox$Line" "size" "I", Cond.instanceMethod yX0_heardOfNote, Cond.selects RX0 yX0_heardOfNote yX0_heardOfNote, Cond.code yX0_heardOfNote cX0_heardOfNote 5 (some .int), Cond.instanceMethod yX3_indexOf, Cond.selects RX3 yX3_indexOf yX3_indexOf, Cond.code yX3_indexOf cX3_indexOf 3 (some .int)]
def wsL_law_r9 : List Cond := [Cond.methodLink RX7 170 yX7_orNotFound, Cond.static yX7_orNotFound, Cond.code yX7_orNotFound cX7_orNotFound 1 (some .int), Cond.methodLink RL 109 yX7_partOf, Cond.instanceMethod yX7_partOf, Cond.selects RX7 yX7_partOf yX7_partOf, Cond.code yX7_partOf cX7_partOf 3 (some .int), Cond.methodLink RX7 55 yX7_isPart, Cond.static yX7_isPart, Cond.code yX7_isPart cX7_isPart 1 (some .boolean), Cond.instanceMethod yX0_howManyOf, Cond.selects RX0 yX0_howManyOf yX0_howManyOf, Cond.code yX0_howManyOf cX0_howManyOf 5 (some .int), Cond.instanceMethod yX0_heardOfPart, Cond.selects RX0 yX0_heardOfPart yX0_heardOfPart, Cond.code yX0_heardOfPart cX0_heardOfPart 3 (some .int), Cond.methodLink RX0 192 yX0_sum, Cond.methodLink RX0 195 yX0_heardOfLine, Cond.instanceMethod yX0_heardOfLine, Cond.selects RX0 yX0_heardOfLine yX0_heardOfLine, Cond.code yX0_heardOfLine cX0_heardOfLine 7 (some .int), Cond.methodLink RX0 189 yX0_heardOfNote, Cond.methodLink RL 36 yL_many, Cond.static yL_many]
def wsL_law_r10 : List Cond := [Cond.code yL_many cL_many 5 (some .int), Cond.methodLink RL 112 yX7_voiceAt, Cond.instanceMethod yX7_voiceAt, Cond.selects RX7 yX7_voiceAt yX7_voiceAt, Cond.code yX7_voiceAt cX7_voiceAt 2 (some .int), Cond.methodLink RL 115 yX7_find, Cond.instanceMethod yX7_find, Cond.selects RX7 yX7_find yX7_find, Cond.code yX7_find cX7_find 3 (some .int), Cond.methodLink RX7 59 yX7_isPitch, Cond.static yX7_isPitch, Cond.code yX7_isPitch cX7_isPitch 1 (some .boolean), Cond.instanceMethod yX0_voiceOf, Cond.selects RX0 yX0_voiceOf yX0_voiceOf, Cond.code yX0_voiceOf cX0_voiceOf 3 (some .int), Cond.methodLink RX0 89 yX0_firstOf, Cond.instanceMethod yX0_firstOf, Cond.selects RX0 yX0_firstOf yX0_firstOf, Cond.code yX0_firstOf cX0_firstOf 6 (some .int), Cond.instanceMethod yX5_is, Cond.selects RX5 yX5_is yX5_is, Cond.code yX5_is cX5_is 4 (some .boolean), Cond.methodLink RL 50 yL_voice, Cond.static yL_voice]
def wsL_law_r11 : List Cond := [Cond.code yL_voice cL_voice 5 (some .int), Cond.methodLink RL 118 yX7_next, Cond.instanceMethod yX7_next, Cond.selects RX7 yX7_next yX7_next, Cond.code yX7_next cX7_next 1 (some .int), Cond.instanceMethod yX0_toSendHome, Cond.selects RX0 yX0_toSendHome yX0_toSendHome, Cond.code yX0_toSendHome cX0_toSendHome 3 (some .int), Cond.methodLink RX0 112 yX0_firstToGo, Cond.instanceMethod yX0_firstToGo, Cond.selects RX0 yX0_firstToGo yX0_firstToGo, Cond.code yX0_firstToGo cX0_firstToGo 7 (some .int), Cond.methodLink RL 68 yL_home, Cond.static yL_home, Cond.code yL_home cL_home 9 (some .int), Cond.constantLong RL 40 (99999999999), Cond.methodLink RL 122 yX7_count, Cond.instanceMethod yX7_count, Cond.selects RX7 yX7_count yX7_count, Cond.code yX7_count cX7_count 2 (some .int), Cond.instanceMethod yX0_freePlaces, Cond.selects RX0 yX0_freePlaces yX0_freePlaces, Cond.code yX0_freePlaces cX0_freePlaces 1 (some .int), Cond.methodLink RX0 107 Lib.Math.max.name]
def wsL_law_r12 : List Cond := [Cond.instanceMethod yX0_heardOfAll, Cond.selects RX0 yX0_heardOfAll yX0_heardOfAll, Cond.code yX0_heardOfAll cX0_heardOfAll 3 (some .int), Cond.methodLink RX0 198 yX0_heardOfPart, Cond.methodLink RL 125 yX7_mix, Cond.instanceMethod yX7_mix, Cond.selects RX7 yX7_mix yX7_mix, Cond.code yX7_mix cX7_mix 2 (some .int), Cond.methodLink RX7 124 yX7_put, Cond.static yX7_put, Cond.code yX7_put cX7_put 3 none, Cond.instanceMethod yX4_result, Cond.selects RX4 yX4_result yX4_result, Cond.code yX4_result cX4_result 7 (some .int), Cond.fieldLink RX4 47 "ChoirBox$Mixer" "open" "I", Cond.methodLink RX4 18 yX4_begin, Cond.instanceMethod yX4_begin, Cond.selects RX4 yX4_begin yX4_begin, Cond.code yX4_begin cX4_begin 2 none, Cond.instanceMethod yX1_signAt, Cond.selects RX1 yX1_signAt yX1_signAt, Cond.code yX1_signAt cX1_signAt 2 (some .char), Cond.static yX1_partNamed, Cond.code yX1_partNamed cX1_partNamed 1 (some .int)]
def wsL_law_r13 : List Cond := [Cond.methodLink RX1 43 yJ0_indexOf_0f7a4, Cond.instanceMethod yJ0_indexOf_0f7a4, Cond.selects RJ0 yJ0_indexOf_0f7a4 yJ0_indexOf_0f7a4, Cond.code yJ0_indexOf_0f7a4 cJ0_indexOf_0f7a4 2 (some .int), Cond.methodLink RJ0 633 yJ0_indexOf_7cf53, Cond.instanceMethod yJ0_indexOf_7cf53, Cond.selects RJ0 yJ0_indexOf_7cf53 yJ0_indexOf_7cf53, Cond.code yJ0_indexOf_7cf53 cJ0_indexOf_7cf53 3 (some .int), Cond.methodLink RJ0 505 yJ0_length_8abf5, Cond.methodLink RJ0 637 yJ1_indexOf_4cfef, Cond.static yJ1_indexOf_4cfef, Cond.code yJ1_indexOf_4cfef cJ1_indexOf_4cfef 4 (some .int), Cond.methodLink RJ1 92 Lib.Math.max.name, Cond.methodLink RJ1 38 Lib.Math.min.name, Cond.methodLink RJ1 88 yJ1_canEncode_9a6ad, Cond.static yJ1_canEncode_9a6ad, Cond.code yJ1_canEncode_9a6ad cJ1_canEncode_9a6ad 1 (some .boolean), Cond.methodLink RJ1 95 yJ1_indexOfChar_4cfef, Cond.static yJ1_indexOfChar_4cfef, Cond.code yJ1_indexOfChar_4cfef cJ1_indexOfChar_4cfef 6 (some .int), Cond.methodLink RJ0 640 yJ2_indexOf_4cfef, Cond.static yJ2_indexOf_4cfef, Cond.code yJ2_indexOf_4cfef cJ2_indexOf_4cfef 4 (some .int), Cond.methodLink RJ2 224 Lib.Math.max.name]
def wsL_law_r14 : List Cond := [Cond.methodLink RJ2 183 Lib.Math.min.name, Cond.constant RJ2 227 (65536), Cond.methodLink RJ2 228 yJ2_indexOfChar_4cfef, Cond.static yJ2_indexOfChar_4cfef, Cond.code yJ2_indexOfChar_4cfef cJ2_indexOfChar_4cfef 4 (some .int), Cond.methodLink RJ2 96 yJ2_checkBoundsBeginEnd_d044e, Cond.static yJ2_checkBoundsBeginEnd_d044e, Cond.code yJ2_checkBoundsBeginEnd_d044e cJ2_checkBoundsBeginEnd_d044e 3 none, Cond.methodLink RJ2 241 yJ0_checkBoundsBeginEnd_23922, Cond.static yJ0_checkBoundsBeginEnd_23922, Cond.code yJ0_checkBoundsBeginEnd_23922 cJ0_checkBoundsBeginEnd_23922 3 none, Cond.methodLink RJ0 1062 yJ3_checkFromToIndex_8c36e, Cond.static yJ3_checkFromToIndex_8c36e, Cond.code yJ3_checkFromToIndex_8c36e cJ3_checkFromToIndex_8c36e 4 (some .int), Cond.methodLink RJ2 244 yJ2_indexOfCharUnsafe_4cfef, Cond.static yJ2_indexOfCharUnsafe_4cfef, Cond.code yJ2_indexOfCharUnsafe_4cfef cJ2_indexOfCharUnsafe_4cfef 5 (some .int), Cond.methodLink RJ2 232 yJ2_indexOfSupplementary_4cfef, Cond.static yJ2_indexOfSupplementary_4cfef, Cond.code yJ2_indexOfSupplementary_4cfef cJ2_indexOfSupplementary_4cfef 7 (some .int), Cond.methodLink RJ2 164 yJ11_isValidCodePoint_9a6ad, Cond.static yJ11_isValidCodePoint_9a6ad, Cond.initialized RJ11, Cond.code yJ11_isValidCodePoint_9a6ad cJ11_isValidCodePoint_9a6ad 2 (some .boolean)]
def wsL_law_r15 : List Cond := [Cond.methodLink RJ2 157 yJ11_highSurrogate_5068e, Cond.static yJ11_highSurrogate_5068e, Cond.code yJ11_highSurrogate_5068e cJ11_highSurrogate_5068e 1 (some .char), Cond.constant RJ11 110 (55232), Cond.methodLink RJ2 161 yJ11_lowSurrogate_5068e, Cond.static yJ11_lowSurrogate_5068e, Cond.code yJ11_lowSurrogate_5068e cJ11_lowSurrogate_5068e 1 (some .char), Cond.constant RJ11 76 (56320), Cond.methodLink RX4 40 yX4_times, Cond.static yX4_times, Cond.code yX4_times cX4_times 3 (some .int), Cond.constant RX4 60 (1000000), Cond.methodLink RX4 61 Lib.Math.min.name, Cond.methodLink RX4 44 yX4_join, Cond.instanceMethod yX4_join, Cond.selects RX4 yX4_join yX4_join, Cond.code yX4_join cX4_join 4 none, Cond.methodLink RX4 54 Lib.Math.max.name, Cond.methodLink RL 133 yL_cell, Cond.static yL_cell, Cond.code yL_cell cL_cell 2 (some .int), Cond.constant RL 7 (40503), Cond.methodLink RL 76 yL_low, Cond.static yL_low]
def wsL_law_r16 : List Cond := [Cond.code yL_low cL_low 2 (some .int), Cond.methodLink RL 137 yL_acts, Cond.static yL_acts, Cond.code yL_acts cL_acts 10 (some .boolean), Cond.constant RL 75 (10000000), Cond.methodLink RL 79 yL_knocks, Cond.static yL_knocks, Cond.code yL_knocks cL_knocks 10 (some .boolean), Cond.methodLink RL 54 yL_anew, Cond.static yL_anew, Cond.code yL_anew cL_anew 4 none, Cond.methodLink RL 32 yL_begins, Cond.static yL_begins, Cond.code yL_begins cL_begins 5 none, Cond.methodLink RL 25 yL_put, Cond.static yL_put, Cond.code yL_put cL_put 5 (some .long), Cond.methodLink RL 62 yX7_knock, Cond.instanceMethod yX7_knock, Cond.selects RX7 yX7_knock yX7_knock, Cond.code yX7_knock cX7_knock 5 (some .int), Cond.instanceMethod yX0_takesNewNote, Cond.selects RX0 yX0_takesNewNote yX0_takesNewNote, Cond.code yX0_takesNewNote cX0_takesNewNote 1 (some .boolean)]
def wsL_law_r17 : List Cond := [Cond.methodLink RX0 127 yX0_newNoteMustWait, Cond.instanceMethod yX0_newNoteMustWait, Cond.selects RX0 yX0_newNoteMustWait yX0_newNoteMustWait, Cond.code yX0_newNoteMustWait cX0_newNoteMustWait 1 (some .boolean), Cond.methodLink RX0 119 yX0_freePlaces, Cond.methodLink RX0 123 yX0_toSendHome, Cond.instanceMethod yX2_record, Cond.selects RX2 yX2_record yX2_record, Cond.code yX2_record cX2_record 3 none, Cond.fieldLink RX2 18 "ChoirBox$History" "size" "I", Cond.methodLink RX2 22 yX2_dropOldest, Cond.instanceMethod yX2_dropOldest, Cond.selects RX2 yX2_dropOldest yX2_dropOldest, Cond.code yX2_dropOldest cX2_dropOldest 3 none, Cond.methodLink RX2 25 yX2_stateAt, Cond.instanceMethod yX2_stateAt, Cond.selects RX2 yX2_stateAt yX2_stateAt, Cond.code yX2_stateAt cX2_stateAt 2 (some (.object "ChoirBox$Choir")), Cond.instanceMethod yX0_copyFrom, Cond.selects RX0 yX0_copyFrom yX0_copyFrom, Cond.code yX0_copyFrom cX0_copyFrom 2 none, Cond.fieldLink RX0 65 "ChoirBox$Choir" "time" "I", Cond.fieldLink RX0 69 "ChoirBox$Choir" "pedalDown" "I", Cond.fieldLink RX0 72 "ChoirBox$Choir" "sentHome" "I"]
def wsL_law_r18 : List Cond := [Cond.fieldLink RX0 75 "ChoirBox$Choir" "begunAnew" "I", Cond.instanceMethod yX5_copyFrom, Cond.selects RX5 yX5_copyFrom yX5_copyFrom, Cond.code yX5_copyFrom cX5_copyFrom 2 none, Cond.fieldLink RX5 33 "ChoirBox$Notes" "size" "I", Cond.instanceMethod yX3_copyFrom, Cond.selects RX3 yX3_copyFrom yX3_copyFrom, Cond.code yX3_copyFrom cX3_copyFrom 2 none, Cond.instanceMethod yX1_copyFrom, Cond.selects RX1 yX1_copyFrom yX1_copyFrom, Cond.code yX1_copyFrom cX1_copyFrom 4 none, Cond.methodLink RX1 34 yX1_signAt, Cond.instanceMethod yX0_takeNewNote, Cond.selects RX0 yX0_takeNewNote yX0_takeNewNote, Cond.code yX0_takeNewNote cX0_takeNewNote 6 (some .int), Cond.instanceMethod yX5_append, Cond.selects RX5 yX5_append yX5_append, Cond.code yX5_append cX5_append 5 (some .int), Cond.instanceMethod yX3_append, Cond.selects RX3 yX3_append yX3_append, Cond.code yX3_append cX3_append 2 none, Cond.methodLink RX0 137 yX0_sendHome, Cond.instanceMethod yX0_sendHome, Cond.selects RX0 yX0_sendHome yX0_sendHome]
def wsL_law_r19 : List Cond := [Cond.code yX0_sendHome cX0_sendHome 2 none, Cond.instanceMethod yX3_removeNote, Cond.selects RX3 yX3_removeNote yX3_removeNote, Cond.code yX3_removeNote cX3_removeNote 6 none, Cond.instanceMethod yX5_startDown, Cond.selects RX5 yX5_startDown yX5_startDown, Cond.code yX5_startDown cX5_startDown 3 none, Cond.methodLink RX0 140 yX0_comeIn, Cond.instanceMethod yX0_comeIn, Cond.selects RX0 yX0_comeIn yX0_comeIn, Cond.code yX0_comeIn cX0_comeIn 2 none, Cond.instanceMethod yX0_beginAnew, Cond.selects RX0 yX0_beginAnew yX0_beginAnew, Cond.code yX0_beginAnew cX0_beginAnew 3 none, Cond.instanceMethod yX5_startOver, Cond.selects RX5 yX5_startOver yX5_startOver, Cond.code yX5_startOver cX5_startOver 3 none, Cond.methodLink RX5 48 yX5_top, Cond.instanceMethod yX5_top, Cond.selects RX5 yX5_top yX5_top, Cond.code yX5_top cX5_top 2 (some .int), Cond.methodLink RL 58 yL_fades, Cond.static yL_fades, Cond.code yL_fades cL_fades 3 none]
def wsL_law_r20 : List Cond := [Cond.methodLink RL 83 yL_lets, Cond.static yL_lets, Cond.code yL_lets cL_lets 7 (some .boolean), Cond.methodLink RL 72 yX7_release, Cond.instanceMethod yX7_release, Cond.selects RX7 yX7_release yX7_release, Cond.code yX7_release cX7_release 4 (some .int), Cond.instanceMethod yX0_singerToLetGo, Cond.selects RX0 yX0_singerToLetGo yX0_singerToLetGo, Cond.code yX0_singerToLetGo cX0_singerToLetGo 4 (some .int), Cond.methodLink RX0 93 yX0_voiceOf, Cond.instanceMethod yX0_waiterOf, Cond.selects RX0 yX0_waiterOf yX0_waiterOf, Cond.code yX0_waiterOf cX0_waiterOf 3 (some .int), Cond.instanceMethod yX0_letGo, Cond.selects RX0 yX0_letGo yX0_letGo, Cond.code yX0_letGo cX0_letGo 2 none, Cond.instanceMethod yX5_end, Cond.selects RX5 yX5_end yX5_end, Cond.code yX5_end cX5_end 2 none, Cond.methodLink RL 87 yX7_pedal, Cond.instanceMethod yX7_pedal, Cond.selects RX7 yX7_pedal yX7_pedal, Cond.code yX7_pedal cX7_pedal 2 (some .int)]
def wsL_law_r21 : List Cond := [Cond.instanceMethod yX0_movePedal, Cond.selects RX0 yX0_movePedal yX0_movePedal, Cond.code yX0_movePedal cX0_movePedal 5 (some .int), Cond.methodLink RL 91 yL_lifts, Cond.static yL_lifts, Cond.code yL_lifts cL_lifts 4 (some .int), Cond.methodLink RL 94 yX7_set, Cond.instanceMethod yX7_set, Cond.selects RX7 yX7_set yX7_set, Cond.code yX7_set cX7_set 4 (some .int), Cond.fieldLink RX7 111 "ChoirBox" "LEAST_VALUES" "[I", Cond.fieldLink RX7 118 "ChoirBox" "MOST_VALUES" "[I", Cond.methodLink RL 97 yL_tick, Cond.static yL_tick, Cond.code yL_tick cL_tick 4 none, Cond.methodLink RL 46 yL_moves, Cond.static yL_moves, Cond.code yL_moves cL_moves 7 none, Cond.methodLink RL 42 yL_share, Cond.static yL_share, Cond.code yL_share cL_share 2 (some .int), Cond.methodLink RL 101 yX7_tick, Cond.instanceMethod yX7_tick, Cond.selects RX7 yX7_tick yX7_tick]
def wsL_law_r22 : List Cond := [Cond.code yX7_tick cX7_tick 3 (some .int), Cond.constant RX7 103 (50000), Cond.instanceMethod yX0_passTick, Cond.selects RX0 yX0_passTick yX0_passTick, Cond.code yX0_passTick cX0_passTick 1 none, Cond.methodLink RX0 160 yX0_moveAll, Cond.instanceMethod yX0_moveAll, Cond.selects RX0 yX0_moveAll yX0_moveAll, Cond.code yX0_moveAll cX0_moveAll 4 none, Cond.instanceMethod yX5_move, Cond.selects RX5 yX5_move yX5_move, Cond.code yX5_move cX5_move 2 none, Cond.methodLink RX5 52 yX5_rise, Cond.instanceMethod yX5_rise, Cond.selects RX5 yX5_rise yX5_rise, Cond.code yX5_rise cX5_rise 4 none, Cond.methodLink RX5 73 Lib.Math.min.name, Cond.static yX7_divideUp, Cond.code yX7_divideUp cX7_divideUp 2 (some .int), Cond.methodLink RX5 56 yX5_sink, Cond.instanceMethod yX5_sink, Cond.selects RX5 yX5_sink yX5_sink, Cond.code yX5_sink cX5_sink 5 none, Cond.methodLink RX5 84 Lib.Math.max.name]
def wsL_law_r23 : List Cond := [Cond.methodLink RX5 78 yX5_rest, Cond.instanceMethod yX5_rest, Cond.selects RX5 yX5_rest yX5_rest, Cond.code yX5_rest cX5_rest 3 (some .int), Cond.methodLink RX5 62 yX5_goDown, Cond.instanceMethod yX5_goDown, Cond.selects RX5 yX5_goDown yX5_goDown, Cond.code yX5_goDown cX5_goDown 4 none, Cond.methodLink RX5 87 yX5_end, Cond.methodLink RX0 163 yX0_openDoor, Cond.instanceMethod yX0_openDoor, Cond.selects RX0 yX0_openDoor yX0_openDoor, Cond.code yX0_openDoor cX0_openDoor 4 none, Cond.methodLink RX0 182 yX0_beginAnew]
def wsL_law : List Cond := (wsL_law_r1 ++ (wsL_law_r2 ++ (wsL_law_r3 ++ (wsL_law_r4 ++ (wsL_law_r5 ++ (wsL_law_r6 ++ (wsL_law_r7 ++ (wsL_law_r8 ++ (wsL_law_r9 ++ (wsL_law_r10 ++ (wsL_law_r11 ++ (wsL_law_r12 ++ (wsL_law_r13 ++ (wsL_law_r14 ++ (wsL_law_r15 ++ (wsL_law_r16 ++ (wsL_law_r17 ++ (wsL_law_r18 ++ (wsL_law_r19 ++ (wsL_law_r20 ++ (wsL_law_r21 ++ (wsL_law_r22 ++ wsL_law_r23)))))))))))))))))))))) ++ wsX70 ++ wsX00 ++ wsX20 ++ wsX10 ++ wsX60 ++ wsX40 ++ wsX50 ++ wsX30 ++ ([] : List Cond)
theorem inJ11 : ∀ w ∈ wsJ110, w ∈ lw_tbl := by decide +kernel
theorem inJ9 : ∀ w ∈ wsJ90, w ∈ lw_tbl := by decide +kernel
theorem inJ0 : ∀ w ∈ wsJ00, w ∈ lw_tbl := by decide +kernel
theorem inJ1 : ∀ w ∈ wsJ10, w ∈ lw_tbl := by decide +kernel
theorem inJ2 : ∀ w ∈ wsJ20, w ∈ lw_tbl := by decide +kernel
theorem inJ10 : ∀ w ∈ wsJ100, w ∈ lw_tbl := by decide +kernel
theorem inJ3 : ∀ w ∈ wsJ30, w ∈ lw_tbl := by decide +kernel
abbrev vwCl : List vw_C := [(RX0, TX0, 10), (RX1, TX1, 2), (RX2, TX2, 2), (RX3, TX3, 2), (RX4, TX4, 3), (RX5, TX5, 8), (RX6, TX6, 4), (RX7, TX7, 7)]
