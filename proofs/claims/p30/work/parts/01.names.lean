/-! ===== BEGIN words of one list among another's, by their places ===== -/
theorem goodIn_r {big : List Cond} (ws : List Cond) (ps : List Nat) (hp : ws = ps.filterMap (fun i => big[i]?)) (h : ws.all goodWord = true) : GoodIn big ws := by
  intro w hw
  have h1 := List.all_eq_true.mp h w hw
  rw [hp] at hw
  obtain ⟨i, -, hi⟩ := List.mem_filterMap.mp hw
  have hm : w ∈ big := by first | exact List.mem_of_getElem? hi | exact List.getElem?_mem hi
  exact ⟨hm, good_of_word h1⟩
theorem goodIn_app {big a b : List Cond} (ha : GoodIn big a) (hb : GoodIn big b) : GoodIn big (a ++ b) := fun w h => (List.mem_append.mp h).elim (ha w) (hb w)
theorem goodIn_ca {big a b : List Cond} {c : Cond} (ha : GoodIn big (c :: a)) (hb : GoodIn big b) : GoodIn big (c :: (a ++ b)) := fun w h => (List.mem_cons.mp h).elim (fun e => ha w (List.mem_cons.mpr (Or.inl e))) (fun h => (List.mem_append.mp h).elim (fun h => ha w (List.mem_cons.mpr (Or.inr h))) (hb w))
theorem goodIn_sub {big ws : List Cond} (hm : ∀ w ∈ ws, w ∈ big) (h : ws.all goodWord = true) : GoodIn big ws := fun w hw => ⟨hm w hw, good_of_word (List.all_eq_true.mp h w hw)⟩
/-! ===== END ===== -/

/-! ===== BEGIN printed: names, fields, word lists, decode rows ===== -/
def RX0 : String := "ForcedRings$Chart"
def TX0 : u_T := fun k => match k with
  | 0 => ("ForcedRings$Chart", "size", "I", false)
  | 1 => ("ForcedRings$Chart", "way", "I", false)
  | 2 => ("ForcedRings$Chart", "led", "[I", true)
  | _ => ("ForcedRings$Chart", "turnedLed", "[I", true)
def tyX0 : Nat → FieldType := fun k => match k with
  | 0 => .int
  | 1 => .int
  | 2 => .array .int
  | _ => .array .int
abbrev wsX00 : List Cond := u_ws RX0 TX0 4
theorem nmX0 : ∀ a, a < 4 → ∀ b, b < 4 → a ≠ b → (TX0 a).2.1 ≠ (TX0 b).2.1 := by decide +kernel
theorem tyX0_ok : ∀ k, k < 4 → parseFieldDescriptor (TX0 k).2.2.1 = some (tyX0 k) := by decide +kernel
abbrev cX0_init : ByteArray := prog_2_method_1_code
def yX0_init : MethodName := ⟨RX0, "<init>", "()V"⟩
abbrev cX0_startWith : ByteArray := prog_2_method_2_code
def yX0_startWith : MethodName := ⟨RX0, "startWith", "(I)V"⟩
abbrev cX0_become : ByteArray := prog_2_method_3_code
def yX0_become : MethodName := ⟨RX0, "become", "(LForcedRings$Chart;)V"⟩
abbrev cX0_leadAll : ByteArray := prog_2_method_4_code
def yX0_leadAll : MethodName := ⟨RX0, "leadAll", "([I)V"⟩
abbrev cX0_holds : ByteArray := prog_2_method_5_code
def yX0_holds : MethodName := ⟨RX0, "holds", "(I)Z"⟩
abbrev cX0_pieceNumber : ByteArray := prog_2_method_6_code
def yX0_pieceNumber : MethodName := ⟨RX0, "pieceNumber", "()I"⟩
abbrev cX0_figures : ByteArray := prog_2_method_7_code
def yX0_figures : MethodName := ⟨RX0, "figures", "()I"⟩
abbrev cX0_packed : ByteArray := prog_2_method_8_code
def yX0_packed : MethodName := ⟨RX0, "packed", "()I"⟩
abbrev cX0_unpack : ByteArray := prog_2_method_9_code
def yX0_unpack : MethodName := ⟨RX0, "unpack", "(I)V"⟩
abbrev cX0_ringBits : ByteArray := prog_2_method_10_code
def yX0_ringBits : MethodName := ⟨RX0, "ringBits", "(I)I"⟩
abbrev cX0_tailOf : ByteArray := prog_2_method_11_code
def yX0_tailOf : MethodName := ⟨RX0, "tailOf", "(I)I"⟩
abbrev cX0_isLeastOfRing : ByteArray := prog_2_method_12_code
def yX0_isLeastOfRing : MethodName := ⟨RX0, "isLeastOfRing", "(I)Z"⟩
abbrev cX0_leastOfRing : ByteArray := prog_2_method_13_code
def yX0_leastOfRing : MethodName := ⟨RX0, "leastOfRing", "(I)I"⟩
abbrev cX0_ringNumber : ByteArray := prog_2_method_14_code
def yX0_ringNumber : MethodName := ⟨RX0, "ringNumber", "()I"⟩
abbrev cX0_pointsOnRings : ByteArray := prog_2_method_15_code
def yX0_pointsOnRings : MethodName := ⟨RX0, "pointsOnRings", "()I"⟩
abbrev cX0_greatestRing : ByteArray := prog_2_method_16_code
def yX0_greatestRing : MethodName := ⟨RX0, "greatestRing", "()I"⟩
abbrev cX0_turned : ByteArray := prog_2_method_18_code
def yX0_turned : MethodName := ⟨RX0, "turned", "(II)Z"⟩
abbrev cX0_mirror : ByteArray := prog_2_method_19_code
def yX0_mirror : MethodName := ⟨RX0, "mirror", "()V"⟩
abbrev cX0_leadTwice : ByteArray := prog_2_method_20_code
def yX0_leadTwice : MethodName := ⟨RX0, "leadTwice", "()V"⟩
abbrev cX0_move : ByteArray := prog_2_method_21_code
def yX0_move : MethodName := ⟨RX0, "move", "()V"⟩
abbrev cX0_turnRound : ByteArray := prog_2_method_22_code
def yX0_turnRound : MethodName := ⟨RX0, "turnRound", "()Z"⟩
abbrev cX0_leadFurther : ByteArray := prog_2_method_23_code
def yX0_leadFurther : MethodName := ⟨RX0, "leadFurther", "(I)V"⟩
abbrev cX0_round : ByteArray := prog_2_method_24_code
def yX0_round : MethodName := ⟨RX0, "round", "(I)I"⟩
def RX1 : String := "ForcedRings$Deeds"
def TX1 : u_T := fun k => match k with
  | 0 => ("ForcedRings$Deeds", "amount", "I", false)
  | _ => ("ForcedRings$Deeds", "maps", "[I", true)
def tyX1 : Nat → FieldType := fun k => match k with
  | 0 => .int
  | _ => .array .int
abbrev wsX10 : List Cond := u_ws RX1 TX1 2
theorem nmX1 : ∀ a, a < 2 → ∀ b, b < 2 → a ≠ b → (TX1 a).2.1 ≠ (TX1 b).2.1 := by decide +kernel
theorem tyX1_ok : ∀ k, k < 2 → parseFieldDescriptor (TX1 k).2.2.1 = some (tyX1 k) := by decide +kernel
abbrev cX1_init : ByteArray := prog_3_method_1_code
def yX1_init : MethodName := ⟨RX1, "<init>", "()V"⟩
abbrev cX1_forget : ByteArray := prog_3_method_2_code
def yX1_forget : MethodName := ⟨RX1, "forget", "()V"⟩
abbrev cX1_keep : ByteArray := prog_3_method_3_code
def yX1_keep : MethodName := ⟨RX1, "keep", "(I)V"⟩
abbrev cX1_forgetOldest : ByteArray := prog_3_method_4_code
def yX1_forgetOldest : MethodName := ⟨RX1, "forgetOldest", "()V"⟩
abbrev cX1_takeLatest : ByteArray := prog_3_method_5_code
def yX1_takeLatest : MethodName := ⟨RX1, "takeLatest", "()I"⟩
def RX2 : String := "ForcedRings$Kinds"
def TX2 : u_T := fun k => match k with
  | _ => ("", "", "", false)
def tyX2 : Nat → FieldType := fun k => match k with
  | _ => .int
abbrev wsX20 : List Cond := u_ws RX2 TX2 0
theorem nmX2 : ∀ a, a < 0 → ∀ b, b < 0 → a ≠ b → (TX2 a).2.1 ≠ (TX2 b).2.1 := by decide +kernel
theorem tyX2_ok : ∀ k, k < 0 → parseFieldDescriptor (TX2 k).2.2.1 = some (tyX2 k) := by decide +kernel
abbrev cX2_ofRing : ByteArray := prog_4_method_2_code
def yX2_ofRing : MethodName := ⟨RX2, "ofRing", "(I)I"⟩
abbrev cX2_isUnder : ByteArray := prog_4_method_3_code
def yX2_isUnder : MethodName := ⟨RX2, "isUnder", "(II)Z"⟩
def RX3 : String := "ForcedRings$OldOrder"
def TX3 : u_T := fun k => match k with
  | _ => ("", "", "", false)
def tyX3 : Nat → FieldType := fun k => match k with
  | _ => .int
abbrev wsX30 : List Cond := u_ws RX3 TX3 0
theorem nmX3 : ∀ a, a < 0 → ∀ b, b < 0 → a ≠ b → (TX3 a).2.1 ≠ (TX3 b).2.1 := by decide +kernel
theorem tyX3_ok : ∀ k, k < 0 → parseFieldDescriptor (TX3 k).2.2.1 = some (tyX3 k) := by decide +kernel
def RX4 : String := "ForcedRings$Patterns"
def TX4 : u_T := fun k => match k with
  | 0 => ("ForcedRings$Patterns", "soughtSize", "I", false)
  | 1 => ("ForcedRings$Patterns", "soughtMap", "I", false)
  | 2 => ("ForcedRings$Patterns", "pieces", "LForcedRings$Pieces;", true)
  | 3 => ("ForcedRings$Patterns", "amount", "[I", true)
  | 4 => ("ForcedRings$Patterns", "found", "[I", true)
  | 5 => ("ForcedRings$Patterns", "loop", "[I", true)
  | 6 => ("ForcedRings$Patterns", "lessRows", "[I", true)
  | _ => ("ForcedRings$Patterns", "leads", "[I", true)
def tyX4 : Nat → FieldType := fun k => match k with
  | 0 => .int
  | 1 => .int
  | 2 => .object "ForcedRings$Pieces"
  | 3 => .array .int
  | 4 => .array .int
  | 5 => .array .int
  | 6 => .array .int
  | _ => .array .int
abbrev wsX40 : List Cond := u_ws RX4 TX4 8
theorem nmX4 : ∀ a, a < 8 → ∀ b, b < 8 → a ≠ b → (TX4 a).2.1 ≠ (TX4 b).2.1 := by decide +kernel
theorem tyX4_ok : ∀ k, k < 8 → parseFieldDescriptor (TX4 k).2.2.1 = some (tyX4 k) := by decide +kernel
abbrev cX4_init : ByteArray := prog_6_method_1_code
def yX4_init : MethodName := ⟨RX4, "<init>", "()V"⟩
def RX5 : String := "ForcedRings$Pieces"
def TX5 : u_T := fun k => match k with
  | 0 => ("ForcedRings$Pieces", "number", "I", false)
  | 1 => ("ForcedRings$Pieces", "falling", "I", false)
  | 2 => ("ForcedRings$Pieces", "covered", "[I", true)
  | 3 => ("ForcedRings$Pieces", "counts", "[J", true)
  | 4 => ("ForcedRings$Pieces", "earlier", "[J", true)
  | 5 => ("ForcedRings$Pieces", "closed", "[J", true)
  | 6 => ("ForcedRings$Pieces", "simple", "[J", true)
  | _ => ("ForcedRings$Pieces", "coefficients", "[J", true)
def tyX5 : Nat → FieldType := fun k => match k with
  | 0 => .int
  | 1 => .int
  | 2 => .array .int
  | 3 => .array .long
  | 4 => .array .long
  | 5 => .array .long
  | 6 => .array .long
  | _ => .array .long
abbrev wsX50 : List Cond := u_ws RX5 TX5 8
theorem nmX5 : ∀ a, a < 8 → ∀ b, b < 8 → a ≠ b → (TX5 a).2.1 ≠ (TX5 b).2.1 := by decide +kernel
theorem tyX5_ok : ∀ k, k < 8 → parseFieldDescriptor (TX5 k).2.2.1 = some (tyX5 k) := by decide +kernel
abbrev cX5_init : ByteArray := prog_7_method_1_code
def yX5_init : MethodName := ⟨RX5, "<init>", "()V"⟩
def RX6 : String := "ForcedRings$Tape"
def TX6 : u_T := fun k => match k with
  | 0 => ("ForcedRings$Tape", "length", "I", false)
  | _ => ("ForcedRings$Tape", "bytes", "[B", true)
def tyX6 : Nat → FieldType := fun k => match k with
  | 0 => .int
  | _ => .array .byte
abbrev wsX60 : List Cond := u_ws RX6 TX6 2
theorem nmX6 : ∀ a, a < 2 → ∀ b, b < 2 → a ≠ b → (TX6 a).2.1 ≠ (TX6 b).2.1 := by decide +kernel
theorem tyX6_ok : ∀ k, k < 2 → parseFieldDescriptor (TX6 k).2.2.1 = some (tyX6 k) := by decide +kernel
abbrev cX6_init : ByteArray := prog_8_method_1_code
def yX6_init : MethodName := ⟨RX6, "<init>", "()V"⟩
abbrev cX6_put : ByteArray := prog_8_method_2_code
def yX6_put : MethodName := ⟨RX6, "put", "(I)V"⟩
def RX7 : String := "ForcedRings$Text"
def TX7 : u_T := fun k => match k with
  | 0 => ("ForcedRings$Text", "stage", "I", false)
  | 1 => ("ForcedRings$Text", "size", "I", false)
  | 2 => ("ForcedRings$Text", "told", "I", false)
  | 3 => ("ForcedRings$Text", "first", "I", false)
  | 4 => ("ForcedRings$Text", "latest", "I", false)
  | 5 => ("ForcedRings$Text", "ringsWhole", "I", false)
  | 6 => ("ForcedRings$Text", "led", "[I", true)
  | 7 => ("ForcedRings$Text", "hasReasons", "Z", false)
  | _ => ("ForcedRings$Text", "reasons", "[J", true)
def tyX7 : Nat → FieldType := fun k => match k with
  | 0 => .int
  | 1 => .int
  | 2 => .int
  | 3 => .int
  | 4 => .int
  | 5 => .int
  | 6 => .array .int
  | 7 => .boolean
  | _ => .array .long
abbrev wsX70 : List Cond := u_ws RX7 TX7 9
theorem nmX7 : ∀ a, a < 9 → ∀ b, b < 9 → a ≠ b → (TX7 a).2.1 ≠ (TX7 b).2.1 := by decide +kernel
theorem tyX7_ok : ∀ k, k < 9 → parseFieldDescriptor (TX7 k).2.2.1 = some (tyX7 k) := by decide +kernel
abbrev cX7_init : ByteArray := prog_9_method_1_code
def yX7_init : MethodName := ⟨RX7, "<init>", "()V"⟩
abbrev cX7_faultIn : ByteArray := prog_9_method_2_code
def yX7_faultIn : MethodName := ⟨RX7, "faultIn", "(LForcedRings$Tape;I)I"⟩
abbrev cX7_keepReasons : ByteArray := prog_9_method_3_code
def yX7_keepReasons : MethodName := ⟨RX7, "keepReasons", "(I)V"⟩
abbrev cX7_begin : ByteArray := prog_9_method_4_code
def yX7_begin : MethodName := ⟨RX7, "begin", "(I)V"⟩
abbrev cX7_canTake : ByteArray := prog_9_method_5_code
def yX7_canTake : MethodName := ⟨RX7, "canTake", "(I)Z"⟩
abbrev cX7_openRing : ByteArray := prog_9_method_6_code
def yX7_openRing : MethodName := ⟨RX7, "openRing", "(I)Z"⟩
abbrev cX7_tellPoint : ByteArray := prog_9_method_7_code
def yX7_tellPoint : MethodName := ⟨RX7, "tellPoint", "(I)Z"⟩
abbrev cX7_goOnBehindPoint : ByteArray := prog_9_method_8_code
def yX7_goOnBehindPoint : MethodName := ⟨RX7, "goOnBehindPoint", "(I)Z"⟩
def RX8 : String := "ForcedRings"
def TX8 : u_T := fun k => match k with
  | 0 => ("ForcedRings", "born", "I", false)
  | 1 => ("ForcedRings", "imageKept", "Z", false)
  | 2 => ("ForcedRings", "chart", "LForcedRings$Chart;", true)
  | 3 => ("ForcedRings", "kept", "LForcedRings$Chart;", true)
  | 4 => ("ForcedRings", "deeds", "LForcedRings$Deeds;", true)
  | 5 => ("ForcedRings", "tape", "LForcedRings$Tape;", true)
  | 6 => ("ForcedRings", "text", "LForcedRings$Text;", true)
  | 7 => ("ForcedRings", "pieces", "LForcedRings$Pieces;", true)
  | _ => ("ForcedRings", "patterns", "LForcedRings$Patterns;", true)
def tyX8 : Nat → FieldType := fun k => match k with
  | 0 => .int
  | 1 => .boolean
  | 2 => .object "ForcedRings$Chart"
  | 3 => .object "ForcedRings$Chart"
  | 4 => .object "ForcedRings$Deeds"
  | 5 => .object "ForcedRings$Tape"
  | 6 => .object "ForcedRings$Text"
  | 7 => .object "ForcedRings$Pieces"
  | _ => .object "ForcedRings$Patterns"
abbrev wsX80 : List Cond := u_ws RX8 TX8 9
theorem nmX8 : ∀ a, a < 9 → ∀ b, b < 9 → a ≠ b → (TX8 a).2.1 ≠ (TX8 b).2.1 := by decide +kernel
theorem tyX8_ok : ∀ k, k < 9 → parseFieldDescriptor (TX8 k).2.2.1 = some (tyX8 k) := by decide +kernel
abbrev cX8_init : ByteArray := prog_1_method_1_code
def yX8_init : MethodName := ⟨RX8, "<init>", "()V"⟩
abbrev cX8_points : ByteArray := prog_1_method_2_code
def yX8_points : MethodName := ⟨RX8, "points", "(I)I"⟩
abbrev cX8_way : ByteArray := prog_1_method_3_code
def yX8_way : MethodName := ⟨RX8, "way", "(I)I"⟩
abbrev cX8_lead : ByteArray := prog_1_method_4_code
def yX8_lead : MethodName := ⟨RX8, "lead", "(II)I"⟩
abbrev cX8_of : ByteArray := prog_1_method_5_code
def yX8_of : MethodName := ⟨RX8, "of", "(II)I"⟩
abbrev cX8_map : ByteArray := prog_1_method_6_code
def yX8_map : MethodName := ⟨RX8, "map", "()I"⟩
abbrev cX8_rings : ByteArray := prog_1_method_7_code
def yX8_rings : MethodName := ⟨RX8, "rings", "(I)I"⟩
abbrev cX8_ring : ByteArray := prog_1_method_8_code
def yX8_ring : MethodName := ⟨RX8, "ring", "(II)I"⟩
abbrev cX8_taken : ByteArray := prog_1_method_9_code
def yX8_taken : MethodName := ⟨RX8, "taken", "(II)I"⟩
abbrev cX8_turn : ByteArray := prog_1_method_22_code
def yX8_turn : MethodName := ⟨RX8, "turn", "(III)I"⟩
abbrev cX8_areTurnings : ByteArray := prog_1_method_23_code
def yX8_areTurnings : MethodName := ⟨RX8, "areTurnings", "(II)Z"⟩
abbrev cX8_withoutLast : ByteArray := prog_1_method_24_code
def yX8_withoutLast : MethodName := ⟨RX8, "withoutLast", "(II)I"⟩
abbrev cX8_feed : ByteArray := prog_1_method_25_code
def yX8_feed : MethodName := ⟨RX8, "feed", "(I)I"⟩
abbrev cX8_read : ByteArray := prog_1_method_26_code
def yX8_read : MethodName := ⟨RX8, "read", "()I"⟩
abbrev cX8_why : ByteArray := prog_1_method_27_code
def yX8_why : MethodName := ⟨RX8, "why", "(I)J"⟩
abbrev cX8_back : ByteArray := prog_1_method_28_code
def yX8_back : MethodName := ⟨RX8, "back", "()I"⟩
abbrev cX8_image : ByteArray := prog_1_method_29_code
def yX8_image : MethodName := ⟨RX8, "image", "()I"⟩
abbrev cX8_undo : ByteArray := prog_1_method_30_code
def yX8_undo : MethodName := ⟨RX8, "undo", "()I"⟩
abbrev cX8_count : ByteArray := prog_1_method_31_code
def yX8_count : MethodName := ⟨RX8, "count", "(I)I"⟩
def RX9 : String := "ForcedRingsModel"
def TX9 : u_T := fun k => match k with
  | _ => ("", "", "", false)
def tyX9 : Nat → FieldType := fun k => match k with
  | _ => .int
abbrev wsX90 : List Cond := u_ws RX9 TX9 0
theorem nmX9 : ∀ a, a < 0 → ∀ b, b < 0 → a ≠ b → (TX9 a).2.1 ≠ (TX9 b).2.1 := by decide +kernel
theorem tyX9_ok : ∀ k, k < 0 → parseFieldDescriptor (TX9 k).2.2.1 = some (tyX9 k) := by decide +kernel
def RJ6 : String := "java/lang/Integer"
def TJ6 : u_T := fun k => match k with
  | _ => ("", "", "", false)
def tyJ6 : Nat → FieldType := fun k => match k with
  | _ => .int
abbrev wsJ60 : List Cond := u_ws RJ6 TJ6 0
theorem nmJ6 : ∀ a, a < 0 → ∀ b, b < 0 → a ≠ b → (TJ6 a).2.1 ≠ (TJ6 b).2.1 := by decide +kernel
theorem tyJ6_ok : ∀ k, k < 0 → parseFieldDescriptor (TJ6 k).2.2.1 = some (tyJ6 k) := by decide +kernel
abbrev cJ6_bitCount_0f7a4 : ByteArray := prog_12_method_49_code
def yJ6_bitCount_0f7a4 : MethodName := ⟨RJ6, "bitCount", "(I)I"⟩
def RJ9 : String := "java/lang/Math"
def TJ9 : u_T := fun k => match k with
  | _ => ("", "", "", false)
def tyJ9 : Nat → FieldType := fun k => match k with
  | _ => .int
abbrev wsJ90 : List Cond := u_ws RJ9 TJ9 0
theorem nmJ9 : ∀ a, a < 0 → ∀ b, b < 0 → a ≠ b → (TJ9 a).2.1 ≠ (TJ9 b).2.1 := by decide +kernel
theorem tyJ9_ok : ∀ k, k < 0 → parseFieldDescriptor (TJ9 k).2.2.1 = some (tyJ9 k) := by decide +kernel
abbrev cJ9_max_7cf53 : ByteArray := prog_13_method_65_code
def yJ9_max_7cf53 : MethodName := ⟨RJ9, "max", "(II)I"⟩
abbrev cJ9_min_7cf53 : ByteArray := prog_13_method_69_code
def yJ9_min_7cf53 : MethodName := ⟨RJ9, "min", "(II)I"⟩
def RJ10 : String := "java/lang/System"
def TJ10 : u_T := fun k => match k with
  | _ => ("", "", "", false)
def tyJ10 : Nat → FieldType := fun k => match k with
  | _ => .int
abbrev wsJ100 : List Cond := u_ws RJ10 TJ10 0
theorem nmJ10 : ∀ a, a < 0 → ∀ b, b < 0 → a ≠ b → (TJ10 a).2.1 ≠ (TJ10 b).2.1 := by decide +kernel
theorem tyJ10_ok : ∀ k, k < 0 → parseFieldDescriptor (TJ10 k).2.2.1 = some (tyJ10 k) := by decide +kernel
def RL : String := "ForcedRingsLaw"
abbrev cL_at : ByteArray := method_2_code
def yL_at : MethodName := ⟨RL, "at", "([II)I"⟩
abbrev cL_build : ByteArray := method_3_code
def yL_build : MethodName := ⟨RL, "build", "([I)LForcedRings;"⟩
abbrev cL_law : ByteArray := code
def yL_law : MethodName := ⟨RL, "law", "([I)Z"⟩
def wsX0_init : List Cond := .code yX0_init cX0_init 2 none :: ([.methodLink RX0 3 objectInit, .instanceMethod objectInit, .code objectInit ⟨#[0xb1]⟩ 1 none, .fieldLink RX0 9 "ForcedRings$Chart" "size" "I", .fieldLink RX0 15 "ForcedRings$Chart" "way" "I", .arrayClass .int, .fieldLink RX0 18 "ForcedRings$Chart" "led" "[I", .fieldLink RX0 22 "ForcedRings$Chart" "turnedLed" "[I"] ++ wsX00)
def wsX0_startWith : List Cond := .code yX0_startWith cX0_startWith 3 none :: ([.fieldLink RX0 9 "ForcedRings$Chart" "size" "I", .fieldLink RX0 18 "ForcedRings$Chart" "led" "[I"] ++ wsX00)
def wsX0_leadAll : List Cond := .code yX0_leadAll cX0_leadAll 2 none :: ([.fieldLink RX0 18 "ForcedRings$Chart" "led" "[I", .methodLink RX0 29 arraycopyName, .native arraycopyName, .static arraycopyName, .initialized "java/lang/System"] ++ wsX00)
def wsX0_become : List Cond := .code yX0_become cX0_become 2 none :: ([.fieldLink RX0 9 "ForcedRings$Chart" "size" "I", .fieldLink RX0 15 "ForcedRings$Chart" "way" "I", .fieldLink RX0 18 "ForcedRings$Chart" "led" "[I", .methodLink RX0 25 yX0_leadAll, .instanceMethod yX0_leadAll, .selects RX0 yX0_leadAll yX0_leadAll, .initialized RX0, .code yX0_leadAll cX0_leadAll 2 none, .methodLink RX0 29 arraycopyName, .native arraycopyName, .static arraycopyName, .initialized "java/lang/System"] ++ wsX00)
def wsX0_holds : List Cond := .code yX0_holds cX0_holds 2 (some .boolean) :: ([.fieldLink RX0 9 "ForcedRings$Chart" "size" "I"] ++ wsX00)
def wsX0_pieceNumber : List Cond := .code yX0_pieceNumber cX0_pieceNumber 1 (some .int) :: ([.fieldLink RX0 15 "ForcedRings$Chart" "way" "I", .fieldLink RX0 9 "ForcedRings$Chart" "size" "I"] ++ wsX00)
def wsX0_figures : List Cond := .code yX0_figures cX0_figures 3 (some .int) :: ([.fieldLink RX0 9 "ForcedRings$Chart" "size" "I", .fieldLink RX0 18 "ForcedRings$Chart" "led" "[I"] ++ wsX00)
def wsX0_packed : List Cond := .code yX0_packed cX0_packed 3 (some .int) :: ([.fieldLink RX0 18 "ForcedRings$Chart" "led" "[I"] ++ wsX00)
def wsX0_unpack : List Cond := .code yX0_unpack cX0_unpack 3 none :: ([.fieldLink RX0 18 "ForcedRings$Chart" "led" "[I"] ++ wsX00)
def wsX0_ringBits : List Cond := .code yX0_ringBits cX0_ringBits 5 (some .int) :: ([.fieldLink RX0 9 "ForcedRings$Chart" "size" "I", .fieldLink RX0 18 "ForcedRings$Chart" "led" "[I"] ++ wsX00)
def wsX0_tailOf : List Cond := .code yX0_tailOf cX0_tailOf 5 (some .int) :: ([.fieldLink RX0 9 "ForcedRings$Chart" "size" "I", .fieldLink RX0 18 "ForcedRings$Chart" "led" "[I", .methodLink RX0 35 yX0_ringBits, .instanceMethod yX0_ringBits, .selects RX0 yX0_ringBits yX0_ringBits, .initialized RX0, .code yX0_ringBits cX0_ringBits 5 (some .int)] ++ wsX00)
def wsX0_isLeastOfRing : List Cond := .code yX0_isLeastOfRing cX0_isLeastOfRing 3 (some .boolean) :: ([.methodLink RX0 35 yX0_ringBits, .instanceMethod yX0_ringBits, .selects RX0 yX0_ringBits yX0_ringBits, .initialized RX0, .code yX0_ringBits cX0_ringBits 5 (some .int), .fieldLink RX0 9 "ForcedRings$Chart" "size" "I", .fieldLink RX0 18 "ForcedRings$Chart" "led" "[I"] ++ wsX00)
def wsX0_leastOfRing : List Cond := .code yX0_leastOfRing cX0_leastOfRing 4 (some .int) :: ([.fieldLink RX0 9 "ForcedRings$Chart" "size" "I", .methodLink RX0 39 yX0_isLeastOfRing, .instanceMethod yX0_isLeastOfRing, .selects RX0 yX0_isLeastOfRing yX0_isLeastOfRing, .initialized RX0, .code yX0_isLeastOfRing cX0_isLeastOfRing 3 (some .boolean), .methodLink RX0 35 yX0_ringBits, .instanceMethod yX0_ringBits, .selects RX0 yX0_ringBits yX0_ringBits, .code yX0_ringBits cX0_ringBits 5 (some .int), .fieldLink RX0 18 "ForcedRings$Chart" "led" "[I"] ++ wsX00)
def wsX0_ringNumber : List Cond := .code yX0_ringNumber cX0_ringNumber 3 (some .int) :: ([.fieldLink RX0 9 "ForcedRings$Chart" "size" "I", .methodLink RX0 39 yX0_isLeastOfRing, .instanceMethod yX0_isLeastOfRing, .selects RX0 yX0_isLeastOfRing yX0_isLeastOfRing, .initialized RX0, .code yX0_isLeastOfRing cX0_isLeastOfRing 3 (some .boolean), .methodLink RX0 35 yX0_ringBits, .instanceMethod yX0_ringBits, .selects RX0 yX0_ringBits yX0_ringBits, .code yX0_ringBits cX0_ringBits 5 (some .int), .fieldLink RX0 18 "ForcedRings$Chart" "led" "[I"] ++ wsX00)
def wsJ6_bitCount_0f7a4 : List Cond := .code yJ6_bitCount_0f7a4 cJ6_bitCount_0f7a4 1 (some .int) :: ([.constant RJ6 265 (1431655765), .constant RJ6 266 (858993459), .constant RJ6 267 (252645135)])
def wsX0_pointsOnRings : List Cond := .code yX0_pointsOnRings cX0_pointsOnRings 3 (some .int) :: ([.fieldLink RX0 9 "ForcedRings$Chart" "size" "I", .methodLink RX0 35 yX0_ringBits, .instanceMethod yX0_ringBits, .selects RX0 yX0_ringBits yX0_ringBits, .initialized RX0, .code yX0_ringBits cX0_ringBits 5 (some .int), .fieldLink RX0 18 "ForcedRings$Chart" "led" "[I", .methodLink RX0 43 yJ6_bitCount_0f7a4, .static yJ6_bitCount_0f7a4, .initialized RJ6, .code yJ6_bitCount_0f7a4 cJ6_bitCount_0f7a4 1 (some .int), .constant RJ6 265 (1431655765), .constant RJ6 266 (858993459), .constant RJ6 267 (252645135)] ++ wsX00)
def wsX0_greatestRing : List Cond := .code yX0_greatestRing cX0_greatestRing 3 (some .int) :: ([.fieldLink RX0 9 "ForcedRings$Chart" "size" "I", .methodLink RX0 48 Lib.Math.max.name, .static Lib.Math.max.name, .initialized "java/lang/Math", .code Lib.Math.max.name Lib.Math.max.code 2 (some .int), .methodLink RX0 35 yX0_ringBits, .instanceMethod yX0_ringBits, .selects RX0 yX0_ringBits yX0_ringBits, .initialized RX0, .code yX0_ringBits cX0_ringBits 5 (some .int), .fieldLink RX0 18 "ForcedRings$Chart" "led" "[I", .methodLink RX0 43 yJ6_bitCount_0f7a4, .static yJ6_bitCount_0f7a4, .initialized RJ6, .code yJ6_bitCount_0f7a4 cJ6_bitCount_0f7a4 1 (some .int), .constant RJ6 265 (1431655765), .constant RJ6 266 (858993459), .constant RJ6 267 (252645135)] ++ wsX00)
def wsX0_mirror : List Cond := .code yX0_mirror cX0_mirror 2 none :: ([.fieldLink RX0 9 "ForcedRings$Chart" "size" "I", .fieldLink RX0 22 "ForcedRings$Chart" "turnedLed" "[I", .fieldLink RX0 18 "ForcedRings$Chart" "led" "[I"] ++ wsX00)
def wsX0_leadTwice : List Cond := .code yX0_leadTwice cX0_leadTwice 2 none :: ([.fieldLink RX0 9 "ForcedRings$Chart" "size" "I", .fieldLink RX0 22 "ForcedRings$Chart" "turnedLed" "[I", .fieldLink RX0 18 "ForcedRings$Chart" "led" "[I"] ++ wsX00)
def wsX0_round : List Cond := .code yX0_round cX0_round 2 (some .int) :: ([.fieldLink RX0 9 "ForcedRings$Chart" "size" "I"] ++ wsX00)
def wsX0_move : List Cond := .code yX0_move cX0_move 2 none :: ([.fieldLink RX0 9 "ForcedRings$Chart" "size" "I", .fieldLink RX0 22 "ForcedRings$Chart" "turnedLed" "[I", .fieldLink RX0 18 "ForcedRings$Chart" "led" "[I", .methodLink RX0 71 yX0_round, .instanceMethod yX0_round, .selects RX0 yX0_round yX0_round, .initialized RX0, .code yX0_round cX0_round 2 (some .int)] ++ wsX00)
def wsX0_turnRound : List Cond := .code yX0_turnRound cX0_turnRound 3 (some .boolean) :: ([.fieldLink RX0 9 "ForcedRings$Chart" "size" "I", .fieldLink RX0 18 "ForcedRings$Chart" "led" "[I", .fieldLink RX0 22 "ForcedRings$Chart" "turnedLed" "[I", .methodLink RX0 43 yJ6_bitCount_0f7a4, .static yJ6_bitCount_0f7a4, .initialized RJ6, .code yJ6_bitCount_0f7a4 cJ6_bitCount_0f7a4 1 (some .int), .constant RJ6 265 (1431655765), .constant RJ6 266 (858993459), .constant RJ6 267 (252645135)] ++ wsX00)
def wsX0_leadFurther : List Cond := .code yX0_leadFurther cX0_leadFurther 3 none :: ([.fieldLink RX0 9 "ForcedRings$Chart" "size" "I", .fieldLink RX0 22 "ForcedRings$Chart" "turnedLed" "[I", .fieldLink RX0 18 "ForcedRings$Chart" "led" "[I", .methodLink RX0 71 yX0_round, .instanceMethod yX0_round, .selects RX0 yX0_round yX0_round, .initialized RX0, .code yX0_round cX0_round 2 (some .int)] ++ wsX00)
def wsX0_turned_r1 : List Cond := [Cond.fieldLink RX0 22 "ForcedRings$Chart" "turnedLed" "[I", Cond.fieldLink RX0 18 "ForcedRings$Chart" "led" "[I", Cond.fieldLink RX0 9 "ForcedRings$Chart" "size" "I", Cond.methodLink RX0 29 arraycopyName, Cond.native arraycopyName, Cond.static arraycopyName, Cond.initialized "java/lang/System", Cond.methodLink RX0 54 yX0_mirror, Cond.instanceMethod yX0_mirror, Cond.selects RX0 yX0_mirror yX0_mirror, Cond.initialized RX0, Cond.code yX0_mirror cX0_mirror 2 none, Cond.methodLink RX0 57 yX0_leadTwice, Cond.instanceMethod yX0_leadTwice, Cond.selects RX0 yX0_leadTwice yX0_leadTwice, Cond.code yX0_leadTwice cX0_leadTwice 2 none, Cond.methodLink RX0 60 yX0_move, Cond.instanceMethod yX0_move, Cond.selects RX0 yX0_move yX0_move, Cond.code yX0_move cX0_move 2 none, Cond.methodLink RX0 71 yX0_round, Cond.instanceMethod yX0_round, Cond.selects RX0 yX0_round yX0_round, Cond.code yX0_round cX0_round 2 (some .int)]
def wsX0_turned_r2 : List Cond := [Cond.methodLink RX0 63 yX0_turnRound, Cond.instanceMethod yX0_turnRound, Cond.selects RX0 yX0_turnRound yX0_turnRound, Cond.code yX0_turnRound cX0_turnRound 3 (some .boolean), Cond.methodLink RX0 43 yJ6_bitCount_0f7a4, Cond.static yJ6_bitCount_0f7a4, Cond.initialized RJ6, Cond.code yJ6_bitCount_0f7a4 cJ6_bitCount_0f7a4 1 (some .int), Cond.constant RJ6 265 (1431655765), Cond.constant RJ6 266 (858993459), Cond.constant RJ6 267 (252645135), Cond.methodLink RX0 67 yX0_leadFurther, Cond.instanceMethod yX0_leadFurther, Cond.selects RX0 yX0_leadFurther yX0_leadFurther, Cond.code yX0_leadFurther cX0_leadFurther 3 none]
def wsX0_turned : List Cond := .code yX0_turned cX0_turned 3 (some .boolean) :: ((wsX0_turned_r1 ++ wsX0_turned_r2) ++ wsX00)
def wsX1_init : List Cond := .code yX1_init cX1_init 1 none :: ([.methodLink RX1 1 objectInit, .instanceMethod objectInit, .code objectInit ⟨#[0xb1]⟩ 1 none, .arrayClass .int, .fieldLink RX1 9 "ForcedRings$Deeds" "maps" "[I"] ++ wsX10)
def wsX1_forget : List Cond := .code yX1_forget cX1_forget 1 none :: ([.fieldLink RX1 13 "ForcedRings$Deeds" "amount" "I"] ++ wsX10)
def wsX1_forgetOldest : List Cond := .code yX1_forgetOldest cX1_forgetOldest 2 none :: ([.fieldLink RX1 9 "ForcedRings$Deeds" "maps" "[I", .fieldLink RX1 13 "ForcedRings$Deeds" "amount" "I"] ++ wsX10)
def wsX1_keep : List Cond := .code yX1_keep cX1_keep 2 none :: ([.fieldLink RX1 13 "ForcedRings$Deeds" "amount" "I", .fieldLink RX1 9 "ForcedRings$Deeds" "maps" "[I", .methodLink RX1 17 yX1_forgetOldest, .instanceMethod yX1_forgetOldest, .selects RX1 yX1_forgetOldest yX1_forgetOldest, .initialized RX1, .code yX1_forgetOldest cX1_forgetOldest 2 none] ++ wsX10)
def wsX1_takeLatest : List Cond := .code yX1_takeLatest cX1_takeLatest 1 (some .int) :: ([.fieldLink RX1 13 "ForcedRings$Deeds" "amount" "I", .fieldLink RX1 9 "ForcedRings$Deeds" "maps" "[I"] ++ wsX10)
def wsX2_ofRing : List Cond := .code yX2_ofRing cX2_ofRing 1 (some .int) :: ([])
def wsX2_isUnder : List Cond := .code yX2_isUnder cX2_isUnder 4 (some .boolean) :: ([.fieldLink RX2 9 "ForcedRings$Kinds" "UPPER" "[I"])
def wsX5_init : List Cond := .code yX5_init cX5_init 1 none :: ([.methodLink RX5 3 objectInit, .instanceMethod objectInit, .code objectInit ⟨#[0xb1]⟩ 1 none, .arrayClass .int, .fieldLink RX5 9 "ForcedRings$Pieces" "covered" "[I", .arrayClass .long, .fieldLink RX5 15 "ForcedRings$Pieces" "counts" "[J", .fieldLink RX5 19 "ForcedRings$Pieces" "earlier" "[J", .fieldLink RX5 22 "ForcedRings$Pieces" "closed" "[J", .fieldLink RX5 25 "ForcedRings$Pieces" "simple" "[J", .fieldLink RX5 28 "ForcedRings$Pieces" "coefficients" "[J"] ++ wsX50)
def wsX4_init : List Cond := .code yX4_init cX4_init 1 none :: ([.methodLink RX4 1 objectInit, .instanceMethod objectInit, .code objectInit ⟨#[0xb1]⟩ 1 none, .classLink RX4 7 RX5, .instantiable RX5 8, .initialized RX5, .fieldLink RX4 10 "ForcedRings$Patterns" "pieces" "LForcedRings$Pieces;", .arrayClass .int, .fieldLink RX4 16 "ForcedRings$Patterns" "amount" "[I", .fieldLink RX4 20 "ForcedRings$Patterns" "found" "[I", .fieldLink RX4 23 "ForcedRings$Patterns" "loop" "[I", .fieldLink RX4 26 "ForcedRings$Patterns" "lessRows" "[I", .fieldLink RX4 29 "ForcedRings$Patterns" "leads" "[I", .instanceMethod yX5_init, .code yX5_init cX5_init 1 none, .methodLink RX5 3 objectInit, .fieldLink RX5 9 "ForcedRings$Pieces" "covered" "[I", .arrayClass .long, .fieldLink RX5 15 "ForcedRings$Pieces" "counts" "[J", .fieldLink RX5 19 "ForcedRings$Pieces" "earlier" "[J", .fieldLink RX5 22 "ForcedRings$Pieces" "closed" "[J", .fieldLink RX5 25 "ForcedRings$Pieces" "simple" "[J", .fieldLink RX5 28 "ForcedRings$Pieces" "coefficients" "[J"] ++ wsX50 ++ wsX40)
def wsX6_init : List Cond := .code yX6_init cX6_init 1 none :: ([.methodLink RX6 1 objectInit, .instanceMethod objectInit, .code objectInit ⟨#[0xb1]⟩ 1 none, .arrayClass .byte, .fieldLink RX6 9 "ForcedRings$Tape" "bytes" "[B"] ++ wsX60)
def wsX6_put : List Cond := .code yX6_put cX6_put 2 none :: ([.fieldLink RX6 13 "ForcedRings$Tape" "length" "I", .fieldLink RX6 9 "ForcedRings$Tape" "bytes" "[B"] ++ wsX60)
def wsX7_init : List Cond := .code yX7_init cX7_init 1 none :: ([.methodLink RX7 3 objectInit, .instanceMethod objectInit, .code objectInit ⟨#[0xb1]⟩ 1 none, .arrayClass .int, .fieldLink RX7 9 "ForcedRings$Text" "led" "[I", .arrayClass .long, .fieldLink RX7 15 "ForcedRings$Text" "reasons" "[J"] ++ wsX70)
def wsX7_begin : List Cond := .code yX7_begin cX7_begin 3 none :: ([.fieldLink RX7 37 "ForcedRings$Text" "stage" "I", .fieldLink RX7 56 "ForcedRings$Text" "size" "I", .fieldLink RX7 47 "ForcedRings$Text" "told" "I", .fieldLink RX7 44 "ForcedRings$Text" "ringsWhole" "I", .fieldLink RX7 9 "ForcedRings$Text" "led" "[I"] ++ wsX70)
def wsX7_tellPoint : List Cond := .code yX7_tellPoint cX7_tellPoint 2 (some .boolean) :: ([.fieldLink RX7 56 "ForcedRings$Text" "size" "I", .fieldLink RX7 47 "ForcedRings$Text" "told" "I", .fieldLink RX7 68 "ForcedRings$Text" "first" "I", .fieldLink RX7 9 "ForcedRings$Text" "led" "[I", .fieldLink RX7 71 "ForcedRings$Text" "latest" "I", .fieldLink RX7 37 "ForcedRings$Text" "stage" "I"] ++ wsX70)
def wsX7_goOnBehindPoint : List Cond := .code yX7_goOnBehindPoint cX7_goOnBehindPoint 2 (some .boolean) :: ([.fieldLink RX7 37 "ForcedRings$Text" "stage" "I", .fieldLink RX7 9 "ForcedRings$Text" "led" "[I", .fieldLink RX7 71 "ForcedRings$Text" "latest" "I", .fieldLink RX7 68 "ForcedRings$Text" "first" "I", .fieldLink RX7 44 "ForcedRings$Text" "ringsWhole" "I"] ++ wsX70)
def wsX7_openRing : List Cond := .code yX7_openRing cX7_openRing 2 (some .boolean) :: ([.fieldLink RX7 68 "ForcedRings$Text" "first" "I", .fieldLink RX7 37 "ForcedRings$Text" "stage" "I"] ++ wsX70)
def wsX7_canTake : List Cond := .code yX7_canTake cX7_canTake 2 (some .boolean) :: ([.fieldLink RX7 37 "ForcedRings$Text" "stage" "I", .methodLink RX7 59 yX7_tellPoint, .instanceMethod yX7_tellPoint, .selects RX7 yX7_tellPoint yX7_tellPoint, .initialized RX7, .code yX7_tellPoint cX7_tellPoint 2 (some .boolean), .fieldLink RX7 56 "ForcedRings$Text" "size" "I", .fieldLink RX7 47 "ForcedRings$Text" "told" "I", .fieldLink RX7 68 "ForcedRings$Text" "first" "I", .fieldLink RX7 9 "ForcedRings$Text" "led" "[I", .fieldLink RX7 71 "ForcedRings$Text" "latest" "I", .methodLink RX7 62 yX7_goOnBehindPoint, .instanceMethod yX7_goOnBehindPoint, .selects RX7 yX7_goOnBehindPoint yX7_goOnBehindPoint, .code yX7_goOnBehindPoint cX7_goOnBehindPoint 2 (some .boolean), .fieldLink RX7 44 "ForcedRings$Text" "ringsWhole" "I", .methodLink RX7 65 yX7_openRing, .instanceMethod yX7_openRing, .selects RX7 yX7_openRing yX7_openRing, .code yX7_openRing cX7_openRing 2 (some .boolean)] ++ wsX70)
def wsX7_faultIn_r1 : List Cond := [Cond.fieldLink RX7 23 "ForcedRings$Tape" "length" "I", Cond.fieldLink RX7 29 "ForcedRings$Tape" "bytes" "[B", Cond.fieldLink RX7 37 "ForcedRings$Text" "stage" "I", Cond.methodLink RX7 19 yX7_begin, Cond.instanceMethod yX7_begin, Cond.selects RX7 yX7_begin yX7_begin, Cond.initialized RX7, Cond.code yX7_begin cX7_begin 3 none, Cond.fieldLink RX7 56 "ForcedRings$Text" "size" "I", Cond.fieldLink RX7 47 "ForcedRings$Text" "told" "I", Cond.fieldLink RX7 44 "ForcedRings$Text" "ringsWhole" "I", Cond.fieldLink RX7 9 "ForcedRings$Text" "led" "[I", Cond.methodLink RX7 33 yX7_canTake, Cond.instanceMethod yX7_canTake, Cond.selects RX7 yX7_canTake yX7_canTake, Cond.code yX7_canTake cX7_canTake 2 (some .boolean), Cond.methodLink RX7 59 yX7_tellPoint, Cond.instanceMethod yX7_tellPoint, Cond.selects RX7 yX7_tellPoint yX7_tellPoint, Cond.code yX7_tellPoint cX7_tellPoint 2 (some .boolean), Cond.fieldLink RX7 68 "ForcedRings$Text" "first" "I", Cond.fieldLink RX7 71 "ForcedRings$Text" "latest" "I", Cond.methodLink RX7 62 yX7_goOnBehindPoint, Cond.instanceMethod yX7_goOnBehindPoint]
def wsX7_faultIn_r2 : List Cond := [Cond.selects RX7 yX7_goOnBehindPoint yX7_goOnBehindPoint, Cond.code yX7_goOnBehindPoint cX7_goOnBehindPoint 2 (some .boolean), Cond.methodLink RX7 65 yX7_openRing, Cond.instanceMethod yX7_openRing, Cond.selects RX7 yX7_openRing yX7_openRing, Cond.code yX7_openRing cX7_openRing 2 (some .boolean)]
def wsX7_faultIn : List Cond := .code yX7_faultIn cX7_faultIn 4 (some .int) :: ((wsX7_faultIn_r1 ++ wsX7_faultIn_r2) ++ wsX60 ++ wsX70)
def wsX7_keepReasons : List Cond := .code yX7_keepReasons cX7_keepReasons 2 none :: ([.fieldLink RX7 40 "ForcedRings$Text" "hasReasons" "Z", .fieldLink RX7 15 "ForcedRings$Text" "reasons" "[J", .fieldLink RX7 44 "ForcedRings$Text" "ringsWhole" "I", .fieldLink RX7 47 "ForcedRings$Text" "told" "I", .methodLink RX7 50 yJ6_bitCount_0f7a4, .static yJ6_bitCount_0f7a4, .initialized RJ6, .code yJ6_bitCount_0f7a4 cJ6_bitCount_0f7a4 1 (some .int), .constant RJ6 265 (1431655765), .constant RJ6 266 (858993459), .constant RJ6 267 (252645135)] ++ wsX70)
def wsX8_init_r1 : List Cond := [Cond.methodLink RX8 3 objectInit, Cond.instanceMethod objectInit, Cond.code objectInit ⟨#[0xb1]⟩ 1 none, Cond.fieldLink RX8 9 "ForcedRings" "born" "I", Cond.classLink RX8 15 RX0, Cond.instantiable RX0 4, Cond.initialized RX0, Cond.fieldLink RX8 18 "ForcedRings" "chart" "LForcedRings$Chart;", Cond.fieldLink RX8 22 "ForcedRings" "kept" "LForcedRings$Chart;", Cond.classLink RX8 25 RX1, Cond.instantiable RX1 2, Cond.initialized RX1, Cond.fieldLink RX8 28 "ForcedRings" "deeds" "LForcedRings$Deeds;", Cond.classLink RX8 32 RX6, Cond.instantiable RX6 2, Cond.initialized RX6, Cond.fieldLink RX8 35 "ForcedRings" "tape" "LForcedRings$Tape;", Cond.classLink RX8 39 RX7, Cond.instantiable RX7 9, Cond.initialized RX7, Cond.fieldLink RX8 42 "ForcedRings" "text" "LForcedRings$Text;", Cond.classLink RX8 46 RX5, Cond.instantiable RX5 8, Cond.initialized RX5]
def wsX8_init_r2 : List Cond := [Cond.fieldLink RX8 49 "ForcedRings" "pieces" "LForcedRings$Pieces;", Cond.classLink RX8 53 RX4, Cond.instantiable RX4 8, Cond.initialized RX4, Cond.fieldLink RX8 56 "ForcedRings" "patterns" "LForcedRings$Patterns;", Cond.methodLink RX8 17 yX0_init, Cond.instanceMethod yX0_init, Cond.code yX0_init cX0_init 2 none, Cond.methodLink RX0 3 objectInit, Cond.fieldLink RX0 9 "ForcedRings$Chart" "size" "I", Cond.fieldLink RX0 15 "ForcedRings$Chart" "way" "I", Cond.arrayClass .int, Cond.fieldLink RX0 18 "ForcedRings$Chart" "led" "[I", Cond.fieldLink RX0 22 "ForcedRings$Chart" "turnedLed" "[I", Cond.instanceMethod yX1_init, Cond.code yX1_init cX1_init 1 none, Cond.methodLink RX1 1 objectInit, Cond.fieldLink RX1 9 "ForcedRings$Deeds" "maps" "[I", Cond.instanceMethod yX6_init, Cond.code yX6_init cX6_init 1 none, Cond.methodLink RX6 1 objectInit, Cond.arrayClass .byte, Cond.fieldLink RX6 9 "ForcedRings$Tape" "bytes" "[B", Cond.instanceMethod yX7_init]
def wsX8_init_r3 : List Cond := [Cond.code yX7_init cX7_init 1 none, Cond.methodLink RX7 3 objectInit, Cond.fieldLink RX7 9 "ForcedRings$Text" "led" "[I", Cond.arrayClass .long, Cond.fieldLink RX7 15 "ForcedRings$Text" "reasons" "[J", Cond.instanceMethod yX5_init, Cond.code yX5_init cX5_init 1 none, Cond.methodLink RX5 3 objectInit, Cond.fieldLink RX5 9 "ForcedRings$Pieces" "covered" "[I", Cond.fieldLink RX5 15 "ForcedRings$Pieces" "counts" "[J", Cond.fieldLink RX5 19 "ForcedRings$Pieces" "earlier" "[J", Cond.fieldLink RX5 22 "ForcedRings$Pieces" "closed" "[J", Cond.fieldLink RX5 25 "ForcedRings$Pieces" "simple" "[J", Cond.fieldLink RX5 28 "ForcedRings$Pieces" "coefficients" "[J", Cond.instanceMethod yX4_init, Cond.code yX4_init cX4_init 1 none, Cond.methodLink RX4 1 objectInit, Cond.classLink RX4 7 RX5, Cond.fieldLink RX4 10 "ForcedRings$Patterns" "pieces" "LForcedRings$Pieces;", Cond.fieldLink RX4 16 "ForcedRings$Patterns" "amount" "[I", Cond.fieldLink RX4 20 "ForcedRings$Patterns" "found" "[I", Cond.fieldLink RX4 23 "ForcedRings$Patterns" "loop" "[I", Cond.fieldLink RX4 26 "ForcedRings$Patterns" "lessRows" "[I", Cond.fieldLink RX4 29 "ForcedRings$Patterns" "leads" "[I"]
def wsX8_init : List Cond := .code yX8_init cX8_init 1 none :: ((wsX8_init_r1 ++ (wsX8_init_r2 ++ wsX8_init_r3)) ++ wsX80 ++ wsX00 ++ wsX10 ++ wsX60 ++ wsX70 ++ wsX50 ++ wsX40)
def wsX8_points : List Cond := .code yX8_points cX8_points 3 (some .int) :: ([.fieldLink RX8 18 "ForcedRings" "chart" "LForcedRings$Chart;", .fieldLink RX8 60 "ForcedRings$Chart" "size" "I", .fieldLink RX8 28 "ForcedRings" "deeds" "LForcedRings$Deeds;", .methodLink RX8 63 yX0_startWith, .instanceMethod yX0_startWith, .selects RX0 yX0_startWith yX0_startWith, .initialized RX0, .code yX0_startWith cX0_startWith 3 none, .fieldLink RX0 9 "ForcedRings$Chart" "size" "I", .fieldLink RX0 18 "ForcedRings$Chart" "led" "[I", .methodLink RX8 67 yX1_forget, .instanceMethod yX1_forget, .selects RX1 yX1_forget yX1_forget, .initialized RX1, .code yX1_forget cX1_forget 1 none, .fieldLink RX1 13 "ForcedRings$Deeds" "amount" "I"] ++ wsX80 ++ wsX00 ++ wsX10)
def wsX8_way : List Cond := .code yX8_way cX8_way 3 (some .int) :: ([.fieldLink RX8 18 "ForcedRings" "chart" "LForcedRings$Chart;", .fieldLink RX8 70 "ForcedRings$Chart" "way" "I", .fieldLink RX8 28 "ForcedRings" "deeds" "LForcedRings$Deeds;", .methodLink RX8 67 yX1_forget, .instanceMethod yX1_forget, .selects RX1 yX1_forget yX1_forget, .initialized RX1, .code yX1_forget cX1_forget 1 none, .fieldLink RX1 13 "ForcedRings$Deeds" "amount" "I"] ++ wsX80 ++ wsX00 ++ wsX10)
def wsX8_lead_r1 : List Cond := [Cond.fieldLink RX8 18 "ForcedRings" "chart" "LForcedRings$Chart;", Cond.fieldLink RX8 28 "ForcedRings" "deeds" "LForcedRings$Deeds;", Cond.fieldLink RX8 84 "ForcedRings$Chart" "led" "[I", Cond.methodLink RX8 73 yX0_holds, Cond.instanceMethod yX0_holds, Cond.selects RX0 yX0_holds yX0_holds, Cond.initialized RX0, Cond.code yX0_holds cX0_holds 2 (some .boolean), Cond.fieldLink RX0 9 "ForcedRings$Chart" "size" "I", Cond.methodLink RX8 77 yX0_packed, Cond.instanceMethod yX0_packed, Cond.selects RX0 yX0_packed yX0_packed, Cond.code yX0_packed cX0_packed 3 (some .int), Cond.fieldLink RX0 18 "ForcedRings$Chart" "led" "[I", Cond.methodLink RX8 81 yX1_keep, Cond.instanceMethod yX1_keep, Cond.selects RX1 yX1_keep yX1_keep, Cond.initialized RX1, Cond.code yX1_keep cX1_keep 2 none, Cond.fieldLink RX1 13 "ForcedRings$Deeds" "amount" "I", Cond.fieldLink RX1 9 "ForcedRings$Deeds" "maps" "[I", Cond.methodLink RX1 17 yX1_forgetOldest, Cond.instanceMethod yX1_forgetOldest, Cond.selects RX1 yX1_forgetOldest yX1_forgetOldest]
def wsX8_lead_r2 : List Cond := [Cond.code yX1_forgetOldest cX1_forgetOldest 2 none]
def wsX8_lead : List Cond := .code yX8_lead cX8_lead 4 (some .int) :: ((wsX8_lead_r1 ++ wsX8_lead_r2) ++ wsX80 ++ wsX00 ++ wsX10)
def wsX8_of_r1 : List Cond := [Cond.fieldLink RX8 18 "ForcedRings" "chart" "LForcedRings$Chart;", Cond.fieldLink RX8 84 "ForcedRings$Chart" "led" "[I", Cond.methodLink RX8 73 yX0_holds, Cond.instanceMethod yX0_holds, Cond.selects RX0 yX0_holds yX0_holds, Cond.initialized RX0, Cond.code yX0_holds cX0_holds 2 (some .boolean), Cond.fieldLink RX0 9 "ForcedRings$Chart" "size" "I", Cond.methodLink RX8 88 yX0_tailOf, Cond.instanceMethod yX0_tailOf, Cond.selects RX0 yX0_tailOf yX0_tailOf, Cond.code yX0_tailOf cX0_tailOf 5 (some .int), Cond.fieldLink RX0 18 "ForcedRings$Chart" "led" "[I", Cond.methodLink RX0 35 yX0_ringBits, Cond.instanceMethod yX0_ringBits, Cond.selects RX0 yX0_ringBits yX0_ringBits, Cond.code yX0_ringBits cX0_ringBits 5 (some .int), Cond.methodLink RX8 92 yX0_ringBits, Cond.methodLink RX8 95 yJ6_bitCount_0f7a4, Cond.static yJ6_bitCount_0f7a4, Cond.initialized RJ6, Cond.code yJ6_bitCount_0f7a4 cJ6_bitCount_0f7a4 1 (some .int), Cond.constant RJ6 265 (1431655765), Cond.constant RJ6 266 (858993459)]
def wsX8_of_r2 : List Cond := [Cond.constant RJ6 267 (252645135)]
def wsX8_of : List Cond := .code yX8_of cX8_of 3 (some .int) :: ((wsX8_of_r1 ++ wsX8_of_r2) ++ wsX80 ++ wsX00)
def wsX8_map : List Cond := .code yX8_map cX8_map 1 (some .int) :: ([.fieldLink RX8 18 "ForcedRings" "chart" "LForcedRings$Chart;", .methodLink RX8 100 yX0_figures, .instanceMethod yX0_figures, .selects RX0 yX0_figures yX0_figures, .initialized RX0, .code yX0_figures cX0_figures 3 (some .int), .fieldLink RX0 9 "ForcedRings$Chart" "size" "I", .fieldLink RX0 18 "ForcedRings$Chart" "led" "[I"] ++ wsX80 ++ wsX00)
def wsX8_rings_r1 : List Cond := [Cond.fieldLink RX8 18 "ForcedRings" "chart" "LForcedRings$Chart;", Cond.fieldLink RX8 60 "ForcedRings$Chart" "size" "I", Cond.methodLink RX8 103 yX0_ringNumber, Cond.instanceMethod yX0_ringNumber, Cond.selects RX0 yX0_ringNumber yX0_ringNumber, Cond.initialized RX0, Cond.code yX0_ringNumber cX0_ringNumber 3 (some .int), Cond.fieldLink RX0 9 "ForcedRings$Chart" "size" "I", Cond.methodLink RX0 39 yX0_isLeastOfRing, Cond.instanceMethod yX0_isLeastOfRing, Cond.selects RX0 yX0_isLeastOfRing yX0_isLeastOfRing, Cond.code yX0_isLeastOfRing cX0_isLeastOfRing 3 (some .boolean), Cond.methodLink RX0 35 yX0_ringBits, Cond.instanceMethod yX0_ringBits, Cond.selects RX0 yX0_ringBits yX0_ringBits, Cond.code yX0_ringBits cX0_ringBits 5 (some .int), Cond.fieldLink RX0 18 "ForcedRings$Chart" "led" "[I", Cond.methodLink RX8 106 yX0_pointsOnRings, Cond.instanceMethod yX0_pointsOnRings, Cond.selects RX0 yX0_pointsOnRings yX0_pointsOnRings, Cond.code yX0_pointsOnRings cX0_pointsOnRings 3 (some .int), Cond.methodLink RX0 43 yJ6_bitCount_0f7a4, Cond.static yJ6_bitCount_0f7a4, Cond.initialized RJ6]
def wsX8_rings_r2 : List Cond := [Cond.code yJ6_bitCount_0f7a4 cJ6_bitCount_0f7a4 1 (some .int), Cond.constant RJ6 265 (1431655765), Cond.constant RJ6 266 (858993459), Cond.constant RJ6 267 (252645135), Cond.methodLink RX8 109 yX0_greatestRing, Cond.instanceMethod yX0_greatestRing, Cond.selects RX0 yX0_greatestRing yX0_greatestRing, Cond.code yX0_greatestRing cX0_greatestRing 3 (some .int), Cond.methodLink RX0 48 Lib.Math.max.name, Cond.static Lib.Math.max.name, Cond.initialized "java/lang/Math", Cond.code Lib.Math.max.name Lib.Math.max.code 2 (some .int)]
def wsX8_rings : List Cond := .code yX8_rings cX8_rings 2 (some .int) :: ((wsX8_rings_r1 ++ wsX8_rings_r2) ++ wsX80 ++ wsX00)
def wsX8_ring_r1 : List Cond := [Cond.fieldLink RX8 18 "ForcedRings" "chart" "LForcedRings$Chart;", Cond.methodLink RX8 112 yX0_leastOfRing, Cond.instanceMethod yX0_leastOfRing, Cond.selects RX0 yX0_leastOfRing yX0_leastOfRing, Cond.initialized RX0, Cond.code yX0_leastOfRing cX0_leastOfRing 4 (some .int), Cond.fieldLink RX0 9 "ForcedRings$Chart" "size" "I", Cond.methodLink RX0 39 yX0_isLeastOfRing, Cond.instanceMethod yX0_isLeastOfRing, Cond.selects RX0 yX0_isLeastOfRing yX0_isLeastOfRing, Cond.code yX0_isLeastOfRing cX0_isLeastOfRing 3 (some .boolean), Cond.methodLink RX0 35 yX0_ringBits, Cond.instanceMethod yX0_ringBits, Cond.selects RX0 yX0_ringBits yX0_ringBits, Cond.code yX0_ringBits cX0_ringBits 5 (some .int), Cond.fieldLink RX0 18 "ForcedRings$Chart" "led" "[I", Cond.methodLink RX8 92 yX0_ringBits, Cond.methodLink RX8 95 yJ6_bitCount_0f7a4, Cond.static yJ6_bitCount_0f7a4, Cond.initialized RJ6, Cond.code yJ6_bitCount_0f7a4 cJ6_bitCount_0f7a4 1 (some .int), Cond.constant RJ6 265 (1431655765), Cond.constant RJ6 266 (858993459), Cond.constant RJ6 267 (252645135)]
def wsX8_ring_r2 : List Cond := [Cond.methodLink RX8 115 yX2_ofRing, Cond.static yX2_ofRing, Cond.initialized RX2, Cond.code yX2_ofRing cX2_ofRing 1 (some .int)]
def wsX8_ring : List Cond := .code yX8_ring cX8_ring 5 (some .int) :: ((wsX8_ring_r1 ++ wsX8_ring_r2) ++ wsX80 ++ wsX00)
def wsX8_taken_r1 : List Cond := [Cond.fieldLink RX8 18 "ForcedRings" "chart" "LForcedRings$Chart;", Cond.methodLink RX8 112 yX0_leastOfRing, Cond.instanceMethod yX0_leastOfRing, Cond.selects RX0 yX0_leastOfRing yX0_leastOfRing, Cond.initialized RX0, Cond.code yX0_leastOfRing cX0_leastOfRing 4 (some .int), Cond.fieldLink RX0 9 "ForcedRings$Chart" "size" "I", Cond.methodLink RX0 39 yX0_isLeastOfRing, Cond.instanceMethod yX0_isLeastOfRing, Cond.selects RX0 yX0_isLeastOfRing yX0_isLeastOfRing, Cond.code yX0_isLeastOfRing cX0_isLeastOfRing 3 (some .boolean), Cond.methodLink RX0 35 yX0_ringBits, Cond.instanceMethod yX0_ringBits, Cond.selects RX0 yX0_ringBits yX0_ringBits, Cond.code yX0_ringBits cX0_ringBits 5 (some .int), Cond.fieldLink RX0 18 "ForcedRings$Chart" "led" "[I", Cond.methodLink RX8 92 yX0_ringBits, Cond.methodLink RX8 95 yJ6_bitCount_0f7a4, Cond.static yJ6_bitCount_0f7a4, Cond.initialized RJ6, Cond.code yJ6_bitCount_0f7a4 cJ6_bitCount_0f7a4 1 (some .int), Cond.constant RJ6 265 (1431655765), Cond.constant RJ6 266 (858993459), Cond.constant RJ6 267 (252645135)]
def wsX8_taken_r2 : List Cond := [Cond.methodLink RX8 115 yX2_ofRing, Cond.static yX2_ofRing, Cond.initialized RX2, Cond.code yX2_ofRing cX2_ofRing 1 (some .int), Cond.methodLink RX8 120 yX2_isUnder, Cond.static yX2_isUnder, Cond.code yX2_isUnder cX2_isUnder 4 (some .boolean), Cond.fieldLink RX2 9 "ForcedRings$Kinds" "UPPER" "[I"]
def wsX8_taken : List Cond := .code yX8_taken cX8_taken 5 (some .int) :: ((wsX8_taken_r1 ++ wsX8_taken_r2) ++ wsX80 ++ wsX00)
def wsX8_withoutLast : List Cond := .code yX8_withoutLast cX8_withoutLast 4 (some .int) :: ([])
def wsX8_areTurnings : List Cond := .code yX8_areTurnings cX8_areTurnings 3 (some .boolean) :: ([.methodLink RX8 209 yX8_withoutLast, .static yX8_withoutLast, .initialized RX8, .code yX8_withoutLast cX8_withoutLast 4 (some .int)])
def wsX8_turn_r1 : List Cond := [Cond.fieldLink RX8 28 "ForcedRings" "deeds" "LForcedRings$Deeds;", Cond.fieldLink RX8 18 "ForcedRings" "chart" "LForcedRings$Chart;", Cond.methodLink RX8 206 yX8_areTurnings, Cond.static yX8_areTurnings, Cond.initialized RX8, Cond.code yX8_areTurnings cX8_areTurnings 3 (some .boolean), Cond.methodLink RX8 209 yX8_withoutLast, Cond.static yX8_withoutLast, Cond.code yX8_withoutLast cX8_withoutLast 4 (some .int), Cond.methodLink RX8 77 yX0_packed, Cond.instanceMethod yX0_packed, Cond.selects RX0 yX0_packed yX0_packed, Cond.initialized RX0, Cond.code yX0_packed cX0_packed 3 (some .int), Cond.fieldLink RX0 18 "ForcedRings$Chart" "led" "[I", Cond.methodLink RX8 81 yX1_keep, Cond.instanceMethod yX1_keep, Cond.selects RX1 yX1_keep yX1_keep, Cond.initialized RX1, Cond.code yX1_keep cX1_keep 2 none, Cond.fieldLink RX1 13 "ForcedRings$Deeds" "amount" "I", Cond.fieldLink RX1 9 "ForcedRings$Deeds" "maps" "[I", Cond.methodLink RX1 17 yX1_forgetOldest, Cond.instanceMethod yX1_forgetOldest]
def wsX8_turn_r2 : List Cond := [Cond.selects RX1 yX1_forgetOldest yX1_forgetOldest, Cond.code yX1_forgetOldest cX1_forgetOldest 2 none, Cond.methodLink RX8 212 yX0_turned, Cond.instanceMethod yX0_turned, Cond.selects RX0 yX0_turned yX0_turned, Cond.code yX0_turned cX0_turned 3 (some .boolean), Cond.fieldLink RX0 22 "ForcedRings$Chart" "turnedLed" "[I", Cond.fieldLink RX0 9 "ForcedRings$Chart" "size" "I", Cond.methodLink RX0 29 arraycopyName, Cond.native arraycopyName, Cond.static arraycopyName, Cond.initialized "java/lang/System", Cond.methodLink RX0 54 yX0_mirror, Cond.instanceMethod yX0_mirror, Cond.selects RX0 yX0_mirror yX0_mirror, Cond.code yX0_mirror cX0_mirror 2 none, Cond.methodLink RX0 57 yX0_leadTwice, Cond.instanceMethod yX0_leadTwice, Cond.selects RX0 yX0_leadTwice yX0_leadTwice, Cond.code yX0_leadTwice cX0_leadTwice 2 none, Cond.methodLink RX0 60 yX0_move, Cond.instanceMethod yX0_move, Cond.selects RX0 yX0_move yX0_move, Cond.code yX0_move cX0_move 2 none]
def wsX8_turn_r3 : List Cond := [Cond.methodLink RX0 71 yX0_round, Cond.instanceMethod yX0_round, Cond.selects RX0 yX0_round yX0_round, Cond.code yX0_round cX0_round 2 (some .int), Cond.methodLink RX0 63 yX0_turnRound, Cond.instanceMethod yX0_turnRound, Cond.selects RX0 yX0_turnRound yX0_turnRound, Cond.code yX0_turnRound cX0_turnRound 3 (some .boolean), Cond.methodLink RX0 43 yJ6_bitCount_0f7a4, Cond.static yJ6_bitCount_0f7a4, Cond.initialized RJ6, Cond.code yJ6_bitCount_0f7a4 cJ6_bitCount_0f7a4 1 (some .int), Cond.constant RJ6 265 (1431655765), Cond.constant RJ6 266 (858993459), Cond.constant RJ6 267 (252645135), Cond.methodLink RX0 67 yX0_leadFurther, Cond.instanceMethod yX0_leadFurther, Cond.selects RX0 yX0_leadFurther yX0_leadFurther, Cond.code yX0_leadFurther cX0_leadFurther 3 none]
def wsX8_turn : List Cond := .code yX8_turn cX8_turn 6 (some .int) :: ((wsX8_turn_r1 ++ (wsX8_turn_r2 ++ wsX8_turn_r3)) ++ wsX80 ++ wsX00 ++ wsX10)
def wsX8_feed : List Cond := .code yX8_feed cX8_feed 2 (some .int) :: ([.fieldLink RX8 35 "ForcedRings" "tape" "LForcedRings$Tape;", .fieldLink RX8 215 "ForcedRings$Tape" "length" "I", .methodLink RX8 218 yX6_put, .instanceMethod yX6_put, .selects RX6 yX6_put yX6_put, .initialized RX6, .code yX6_put cX6_put 2 none, .fieldLink RX6 13 "ForcedRings$Tape" "length" "I", .fieldLink RX6 9 "ForcedRings$Tape" "bytes" "[B"] ++ wsX80 ++ wsX60)
def wsX8_read_r1 : List Cond := [Cond.fieldLink RX8 42 "ForcedRings" "text" "LForcedRings$Text;", Cond.fieldLink RX8 35 "ForcedRings" "tape" "LForcedRings$Tape;", Cond.fieldLink RX8 18 "ForcedRings" "chart" "LForcedRings$Chart;", Cond.fieldLink RX8 60 "ForcedRings$Chart" "size" "I", Cond.fieldLink RX8 215 "ForcedRings$Tape" "length" "I", Cond.fieldLink RX8 28 "ForcedRings" "deeds" "LForcedRings$Deeds;", Cond.fieldLink RX8 228 "ForcedRings$Text" "led" "[I", Cond.fieldLink RX8 233 "ForcedRings$Text" "ringsWhole" "I", Cond.methodLink RX8 221 yX7_faultIn, Cond.instanceMethod yX7_faultIn, Cond.selects RX7 yX7_faultIn yX7_faultIn, Cond.initialized RX7, Cond.code yX7_faultIn cX7_faultIn 4 (some .int), Cond.fieldLink RX7 23 "ForcedRings$Tape" "length" "I", Cond.fieldLink RX7 29 "ForcedRings$Tape" "bytes" "[B", Cond.fieldLink RX7 37 "ForcedRings$Text" "stage" "I", Cond.methodLink RX7 19 yX7_begin, Cond.instanceMethod yX7_begin, Cond.selects RX7 yX7_begin yX7_begin, Cond.code yX7_begin cX7_begin 3 none, Cond.fieldLink RX7 56 "ForcedRings$Text" "size" "I", Cond.fieldLink RX7 47 "ForcedRings$Text" "told" "I", Cond.fieldLink RX7 44 "ForcedRings$Text" "ringsWhole" "I", Cond.fieldLink RX7 9 "ForcedRings$Text" "led" "[I"]
def wsX8_read_r2 : List Cond := [Cond.methodLink RX7 33 yX7_canTake, Cond.instanceMethod yX7_canTake, Cond.selects RX7 yX7_canTake yX7_canTake, Cond.code yX7_canTake cX7_canTake 2 (some .boolean), Cond.methodLink RX7 59 yX7_tellPoint, Cond.instanceMethod yX7_tellPoint, Cond.selects RX7 yX7_tellPoint yX7_tellPoint, Cond.code yX7_tellPoint cX7_tellPoint 2 (some .boolean), Cond.fieldLink RX7 68 "ForcedRings$Text" "first" "I", Cond.fieldLink RX7 71 "ForcedRings$Text" "latest" "I", Cond.methodLink RX7 62 yX7_goOnBehindPoint, Cond.instanceMethod yX7_goOnBehindPoint, Cond.selects RX7 yX7_goOnBehindPoint yX7_goOnBehindPoint, Cond.code yX7_goOnBehindPoint cX7_goOnBehindPoint 2 (some .boolean), Cond.methodLink RX7 65 yX7_openRing, Cond.instanceMethod yX7_openRing, Cond.selects RX7 yX7_openRing yX7_openRing, Cond.code yX7_openRing cX7_openRing 2 (some .boolean), Cond.methodLink RX8 225 yX7_keepReasons, Cond.instanceMethod yX7_keepReasons, Cond.selects RX7 yX7_keepReasons yX7_keepReasons, Cond.code yX7_keepReasons cX7_keepReasons 2 none, Cond.fieldLink RX7 40 "ForcedRings$Text" "hasReasons" "Z", Cond.fieldLink RX7 15 "ForcedRings$Text" "reasons" "[J"]
def wsX8_read_r3 : List Cond := [Cond.methodLink RX7 50 yJ6_bitCount_0f7a4, Cond.static yJ6_bitCount_0f7a4, Cond.initialized RJ6, Cond.code yJ6_bitCount_0f7a4 cJ6_bitCount_0f7a4 1 (some .int), Cond.constant RJ6 265 (1431655765), Cond.constant RJ6 266 (858993459), Cond.constant RJ6 267 (252645135), Cond.methodLink RX8 77 yX0_packed, Cond.instanceMethod yX0_packed, Cond.selects RX0 yX0_packed yX0_packed, Cond.initialized RX0, Cond.code yX0_packed cX0_packed 3 (some .int), Cond.fieldLink RX0 18 "ForcedRings$Chart" "led" "[I", Cond.methodLink RX8 81 yX1_keep, Cond.instanceMethod yX1_keep, Cond.selects RX1 yX1_keep yX1_keep, Cond.initialized RX1, Cond.code yX1_keep cX1_keep 2 none, Cond.fieldLink RX1 13 "ForcedRings$Deeds" "amount" "I", Cond.fieldLink RX1 9 "ForcedRings$Deeds" "maps" "[I", Cond.methodLink RX1 17 yX1_forgetOldest, Cond.instanceMethod yX1_forgetOldest, Cond.selects RX1 yX1_forgetOldest yX1_forgetOldest, Cond.code yX1_forgetOldest cX1_forgetOldest 2 none]
def wsX8_read_r4 : List Cond := [Cond.methodLink RX8 229 yX0_leadAll, Cond.instanceMethod yX0_leadAll, Cond.selects RX0 yX0_leadAll yX0_leadAll, Cond.code yX0_leadAll cX0_leadAll 2 none, Cond.methodLink RX0 29 arraycopyName, Cond.native arraycopyName, Cond.static arraycopyName, Cond.initialized "java/lang/System"]
def wsX8_read : List Cond := .code yX8_read cX8_read 2 (some .int) :: ((wsX8_read_r1 ++ (wsX8_read_r2 ++ (wsX8_read_r3 ++ wsX8_read_r4))) ++ wsX80 ++ wsX00 ++ wsX60 ++ wsX70 ++ wsX10)
def wsX8_why : List Cond := .code yX8_why cX8_why 2 (some .long) :: ([.fieldLink RX8 42 "ForcedRings" "text" "LForcedRings$Text;", .fieldLink RX8 236 "ForcedRings$Text" "hasReasons" "Z", .constantLong RX8 138 (-9223372036854775808), .fieldLink RX8 240 "ForcedRings$Text" "reasons" "[J"] ++ wsX80 ++ wsX70)
def wsX8_back : List Cond := .code yX8_back cX8_back 1 (some .int) :: ([.fieldLink RX8 28 "ForcedRings" "deeds" "LForcedRings$Deeds;", .fieldLink RX8 243 "ForcedRings$Deeds" "amount" "I", .fieldLink RX8 18 "ForcedRings" "chart" "LForcedRings$Chart;", .methodLink RX8 245 yX1_takeLatest, .instanceMethod yX1_takeLatest, .selects RX1 yX1_takeLatest yX1_takeLatest, .initialized RX1, .code yX1_takeLatest cX1_takeLatest 1 (some .int), .fieldLink RX1 13 "ForcedRings$Deeds" "amount" "I", .fieldLink RX1 9 "ForcedRings$Deeds" "maps" "[I", .methodLink RX8 248 yX0_unpack, .instanceMethod yX0_unpack, .selects RX0 yX0_unpack yX0_unpack, .initialized RX0, .code yX0_unpack cX0_unpack 3 none, .fieldLink RX0 18 "ForcedRings$Chart" "led" "[I"] ++ wsX80 ++ wsX10 ++ wsX00)
def wsX8_image : List Cond := .code yX8_image cX8_image 1 (some .int) :: ([.fieldLink RX8 22 "ForcedRings" "kept" "LForcedRings$Chart;", .fieldLink RX8 18 "ForcedRings" "chart" "LForcedRings$Chart;", .fieldLink RX8 254 "ForcedRings" "imageKept" "Z", .fieldLink RX8 60 "ForcedRings$Chart" "size" "I", .methodLink RX8 251 yX0_become, .instanceMethod yX0_become, .selects RX0 yX0_become yX0_become, .initialized RX0, .code yX0_become cX0_become 2 none, .fieldLink RX0 9 "ForcedRings$Chart" "size" "I", .fieldLink RX0 15 "ForcedRings$Chart" "way" "I", .fieldLink RX0 18 "ForcedRings$Chart" "led" "[I", .methodLink RX0 25 yX0_leadAll, .instanceMethod yX0_leadAll, .selects RX0 yX0_leadAll yX0_leadAll, .code yX0_leadAll cX0_leadAll 2 none, .methodLink RX0 29 arraycopyName, .native arraycopyName, .static arraycopyName, .initialized "java/lang/System"] ++ wsX80 ++ wsX00)
def wsX8_undo_r1 : List Cond := [Cond.fieldLink RX8 254 "ForcedRings" "imageKept" "Z", Cond.fieldLink RX8 18 "ForcedRings" "chart" "LForcedRings$Chart;", Cond.fieldLink RX8 22 "ForcedRings" "kept" "LForcedRings$Chart;", Cond.fieldLink RX8 28 "ForcedRings" "deeds" "LForcedRings$Deeds;", Cond.fieldLink RX8 60 "ForcedRings$Chart" "size" "I", Cond.methodLink RX8 251 yX0_become, Cond.instanceMethod yX0_become, Cond.selects RX0 yX0_become yX0_become, Cond.initialized RX0, Cond.code yX0_become cX0_become 2 none, Cond.fieldLink RX0 9 "ForcedRings$Chart" "size" "I", Cond.fieldLink RX0 15 "ForcedRings$Chart" "way" "I", Cond.fieldLink RX0 18 "ForcedRings$Chart" "led" "[I", Cond.methodLink RX0 25 yX0_leadAll, Cond.instanceMethod yX0_leadAll, Cond.selects RX0 yX0_leadAll yX0_leadAll, Cond.code yX0_leadAll cX0_leadAll 2 none, Cond.methodLink RX0 29 arraycopyName, Cond.native arraycopyName, Cond.static arraycopyName, Cond.initialized "java/lang/System", Cond.methodLink RX8 67 yX1_forget, Cond.instanceMethod yX1_forget, Cond.selects RX1 yX1_forget yX1_forget]
def wsX8_undo_r2 : List Cond := [Cond.initialized RX1, Cond.code yX1_forget cX1_forget 1 none, Cond.fieldLink RX1 13 "ForcedRings$Deeds" "amount" "I"]
def wsX8_undo : List Cond := .code yX8_undo cX8_undo 1 (some .int) :: ((wsX8_undo_r1 ++ wsX8_undo_r2) ++ wsX80 ++ wsX00 ++ wsX10)
def wsX8_count : List Cond := .code yX8_count cX8_count 2 (some .int) :: ([.fieldLink RX8 18 "ForcedRings" "chart" "LForcedRings$Chart;", .fieldLink RX8 60 "ForcedRings$Chart" "size" "I", .fieldLink RX8 70 "ForcedRings$Chart" "way" "I", .fieldLink RX8 28 "ForcedRings" "deeds" "LForcedRings$Deeds;", .fieldLink RX8 243 "ForcedRings$Deeds" "amount" "I", .fieldLink RX8 35 "ForcedRings" "tape" "LForcedRings$Tape;", .fieldLink RX8 215 "ForcedRings$Tape" "length" "I", .fieldLink RX8 9 "ForcedRings" "born" "I", .methodLink RX8 257 yX0_pieceNumber, .instanceMethod yX0_pieceNumber, .selects RX0 yX0_pieceNumber yX0_pieceNumber, .initialized RX0, .code yX0_pieceNumber cX0_pieceNumber 1 (some .int), .fieldLink RX0 15 "ForcedRings$Chart" "way" "I", .fieldLink RX0 9 "ForcedRings$Chart" "size" "I"] ++ wsX80 ++ wsX00 ++ wsX10 ++ wsX60)
def wsJ9_max_7cf53 : List Cond := .code yJ9_max_7cf53 cJ9_max_7cf53 2 (some .int) :: ([])
def wsJ9_min_7cf53 : List Cond := .code yJ9_min_7cf53 cJ9_min_7cf53 2 (some .int) :: ([])
def wsL_at : List Cond := .code yL_at cL_at 2 (some .int) :: ([])
def wsL_build_r1 : List Cond := [Cond.classLink RL 7 RX8, Cond.instantiable RX8 9, Cond.initialized RX8, Cond.methodLink RL 9 yX8_init, Cond.instanceMethod yX8_init, Cond.code yX8_init cX8_init 1 none, Cond.methodLink RX8 3 objectInit, Cond.instanceMethod objectInit, Cond.code objectInit ⟨#[0xb1]⟩ 1 none, Cond.fieldLink RX8 9 "ForcedRings" "born" "I", Cond.classLink RX8 15 RX0, Cond.instantiable RX0 4, Cond.initialized RX0, Cond.fieldLink RX8 18 "ForcedRings" "chart" "LForcedRings$Chart;", Cond.fieldLink RX8 22 "ForcedRings" "kept" "LForcedRings$Chart;", Cond.classLink RX8 25 RX1, Cond.instantiable RX1 2, Cond.initialized RX1, Cond.fieldLink RX8 28 "ForcedRings" "deeds" "LForcedRings$Deeds;", Cond.classLink RX8 32 RX6, Cond.instantiable RX6 2, Cond.initialized RX6, Cond.fieldLink RX8 35 "ForcedRings" "tape" "LForcedRings$Tape;", Cond.classLink RX8 39 RX7]
def wsL_build_r2 : List Cond := [Cond.instantiable RX7 9, Cond.initialized RX7, Cond.fieldLink RX8 42 "ForcedRings" "text" "LForcedRings$Text;", Cond.classLink RX8 46 RX5, Cond.instantiable RX5 8, Cond.initialized RX5, Cond.fieldLink RX8 49 "ForcedRings" "pieces" "LForcedRings$Pieces;", Cond.classLink RX8 53 RX4, Cond.instantiable RX4 8, Cond.initialized RX4, Cond.fieldLink RX8 56 "ForcedRings" "patterns" "LForcedRings$Patterns;", Cond.methodLink RX8 17 yX0_init, Cond.instanceMethod yX0_init, Cond.code yX0_init cX0_init 2 none, Cond.methodLink RX0 3 objectInit, Cond.fieldLink RX0 9 "ForcedRings$Chart" "size" "I", Cond.fieldLink RX0 15 "ForcedRings$Chart" "way" "I", Cond.arrayClass .int, Cond.fieldLink RX0 18 "ForcedRings$Chart" "led" "[I", Cond.fieldLink RX0 22 "ForcedRings$Chart" "turnedLed" "[I", Cond.instanceMethod yX1_init, Cond.code yX1_init cX1_init 1 none, Cond.methodLink RX1 1 objectInit, Cond.fieldLink RX1 9 "ForcedRings$Deeds" "maps" "[I"]
def wsL_build_r3 : List Cond := [Cond.instanceMethod yX6_init, Cond.code yX6_init cX6_init 1 none, Cond.methodLink RX6 1 objectInit, Cond.arrayClass .byte, Cond.fieldLink RX6 9 "ForcedRings$Tape" "bytes" "[B", Cond.instanceMethod yX7_init, Cond.code yX7_init cX7_init 1 none, Cond.methodLink RX7 3 objectInit, Cond.fieldLink RX7 9 "ForcedRings$Text" "led" "[I", Cond.arrayClass .long, Cond.fieldLink RX7 15 "ForcedRings$Text" "reasons" "[J", Cond.instanceMethod yX5_init, Cond.code yX5_init cX5_init 1 none, Cond.methodLink RX5 3 objectInit, Cond.fieldLink RX5 9 "ForcedRings$Pieces" "covered" "[I", Cond.fieldLink RX5 15 "ForcedRings$Pieces" "counts" "[J", Cond.fieldLink RX5 19 "ForcedRings$Pieces" "earlier" "[J", Cond.fieldLink RX5 22 "ForcedRings$Pieces" "closed" "[J", Cond.fieldLink RX5 25 "ForcedRings$Pieces" "simple" "[J", Cond.fieldLink RX5 28 "ForcedRings$Pieces" "coefficients" "[J", Cond.instanceMethod yX4_init, Cond.code yX4_init cX4_init 1 none, Cond.methodLink RX4 1 objectInit, Cond.classLink RX4 7 RX5]
def wsL_build_r4 : List Cond := [Cond.fieldLink RX4 10 "ForcedRings$Patterns" "pieces" "LForcedRings$Pieces;", Cond.fieldLink RX4 16 "ForcedRings$Patterns" "amount" "[I", Cond.fieldLink RX4 20 "ForcedRings$Patterns" "found" "[I", Cond.fieldLink RX4 23 "ForcedRings$Patterns" "loop" "[I", Cond.fieldLink RX4 26 "ForcedRings$Patterns" "lessRows" "[I", Cond.fieldLink RX4 29 "ForcedRings$Patterns" "leads" "[I", Cond.methodLink RL 10 yL_at, Cond.static yL_at, Cond.initialized RL, Cond.code yL_at cL_at 2 (some .int), Cond.methodLink RL 16 yX8_points, Cond.instanceMethod yX8_points, Cond.selects RX8 yX8_points yX8_points, Cond.code yX8_points cX8_points 3 (some .int), Cond.fieldLink RX8 60 "ForcedRings$Chart" "size" "I", Cond.methodLink RX8 63 yX0_startWith, Cond.instanceMethod yX0_startWith, Cond.selects RX0 yX0_startWith yX0_startWith, Cond.code yX0_startWith cX0_startWith 3 none, Cond.methodLink RX8 67 yX1_forget, Cond.instanceMethod yX1_forget, Cond.selects RX1 yX1_forget yX1_forget, Cond.code yX1_forget cX1_forget 1 none, Cond.fieldLink RX1 13 "ForcedRings$Deeds" "amount" "I"]
def wsL_build_r5 : List Cond := [Cond.methodLink RL 20 yX8_way, Cond.instanceMethod yX8_way, Cond.selects RX8 yX8_way yX8_way, Cond.code yX8_way cX8_way 3 (some .int), Cond.fieldLink RX8 70 "ForcedRings$Chart" "way" "I", Cond.methodLink RL 23 yX8_lead, Cond.instanceMethod yX8_lead, Cond.selects RX8 yX8_lead yX8_lead, Cond.code yX8_lead cX8_lead 4 (some .int), Cond.fieldLink RX8 84 "ForcedRings$Chart" "led" "[I", Cond.methodLink RX8 73 yX0_holds, Cond.instanceMethod yX0_holds, Cond.selects RX0 yX0_holds yX0_holds, Cond.code yX0_holds cX0_holds 2 (some .boolean), Cond.methodLink RX8 77 yX0_packed, Cond.instanceMethod yX0_packed, Cond.selects RX0 yX0_packed yX0_packed, Cond.code yX0_packed cX0_packed 3 (some .int), Cond.methodLink RX8 81 yX1_keep, Cond.instanceMethod yX1_keep, Cond.selects RX1 yX1_keep yX1_keep, Cond.code yX1_keep cX1_keep 2 none, Cond.methodLink RX1 17 yX1_forgetOldest, Cond.instanceMethod yX1_forgetOldest]
def wsL_build_r6 : List Cond := [Cond.selects RX1 yX1_forgetOldest yX1_forgetOldest, Cond.code yX1_forgetOldest cX1_forgetOldest 2 none]
def wsL_build : List Cond := .code yL_build cL_build 7 (some (.object "ForcedRings")) :: ((wsL_build_r1 ++ (wsL_build_r2 ++ (wsL_build_r3 ++ (wsL_build_r4 ++ (wsL_build_r5 ++ wsL_build_r6))))) ++ wsX80 ++ wsX00 ++ wsX10 ++ wsX60 ++ wsX70 ++ wsX50 ++ wsX40)
abbrev vwCl : List vw_C := [(RX0, TX0, 4), (RX1, TX1, 2), (RX4, TX4, 8), (RX5, TX5, 8), (RX6, TX6, 2), (RX7, TX7, 9), (RX8, TX8, 9)]
